/-! Ways through methods, printed by wip/gen/paths.py -/
section XMPA
theorem r_X6_hasSpace_0 : co_X6_hasSpace[0]? = some ((0, .aload_n 0, 0, 0, 0, 0, 0, 0, []) : xm_I) := rfl
theorem r_X6_hasSpace_1 : co_X6_hasSpace[1]? = some ((1, .getfield 19, 145, 5, 1, 0, 0, 0, []) : xm_I) := rfl
theorem r_X6_hasSpace_2 : co_X6_hasSpace[2]? = some ((4, .bipush 20, 0, 0, 0, 0, 20, 0, []) : xm_I) := rfl
theorem r_X6_hasSpace_3 : co_X6_hasSpace[3]? = some ((6, .iadd, 0, 0, 0, 0, 0, 0, []) : xm_I) := rfl
theorem r_X6_hasSpace_4 : co_X6_hasSpace[4]? = some ((7, .sipush 1000, 0, 0, 0, 0, 1000, 0, []) : xm_I) := rfl
theorem r_X6_hasSpace_5 : co_X6_hasSpace[5]? = some ((10, .if_icmp .gt 7, 0, 0, 8, 0, 0, 0, []) : xm_I) := rfl
theorem r_X6_hasSpace_6 : co_X6_hasSpace[6]? = some ((13, .iconst 1, 0, 0, 0, 0, 1, 0, []) : xm_I) := rfl
theorem r_X6_hasSpace_7 : co_X6_hasSpace[7]? = some ((14, .goto 4, 0, 0, 9, 0, 0, 0, []) : xm_I) := rfl
theorem r_X6_hasSpace_8 : co_X6_hasSpace[8]? = some ((17, .iconst 0, 0, 0, 0, 0, 0, 0, []) : xm_I) := rfl
theorem r_X6_hasSpace_9 : co_X6_hasSpace[9]? = some ((18, .ireturn, 0, 0, 0, 3, 0, 0, []) : xm_I) := rfl
theorem p_X6_hasSpace_0_0 {X : xm_X} {P : List xm_M} {d : Nat} {h : xm_H} {l0 : Nat} (q0 : X.1[l0]? = some (.inr 5)) (q1 : (1000 : Int32) < (h.1 l0 1) + (20 : Int32)) : xm_E X P d co_X6_hasSpace 0 [some (.ref l0)] [] h (some (.int (0 : Int32))) h := by
  refine xm_E_s r_X6_hasSpace_0 rfl rfl ?_
  refine xm_E_s r_X6_hasSpace_1 rfl (xm_T_gi rfl q0 rfl (Or.inl rfl)) ?_
  refine xm_E_s r_X6_hasSpace_2 rfl rfl ?_
  refine xm_E_s r_X6_hasSpace_3 rfl rfl ?_
  refine xm_E_s r_X6_hasSpace_4 rfl rfl ?_
  refine xm_E_s r_X6_hasSpace_5 rfl rfl ?_
  refine xm_E_t q1 ?_
  refine xm_E_s r_X6_hasSpace_8 rfl rfl ?_
  exact xm_E_iret r_X6_hasSpace_9 rfl rfl
theorem p_X6_hasSpace_0_1 {X : xm_X} {P : List xm_M} {d : Nat} {h : xm_H} {l0 : Nat} (q0 : X.1[l0]? = some (.inr 5)) (q1 : ¬ ((1000 : Int32) < (h.1 l0 1) + (20 : Int32))) : xm_E X P d co_X6_hasSpace 0 [some (.ref l0)] [] h (some (.int (1 : Int32))) h := by
  refine xm_E_s r_X6_hasSpace_0 rfl rfl ?_
  refine xm_E_s r_X6_hasSpace_1 rfl (xm_T_gi rfl q0 rfl (Or.inl rfl)) ?_
  refine xm_E_s r_X6_hasSpace_2 rfl rfl ?_
  refine xm_E_s r_X6_hasSpace_3 rfl rfl ?_
  refine xm_E_s r_X6_hasSpace_4 rfl rfl ?_
  refine xm_E_s r_X6_hasSpace_5 rfl rfl ?_
  refine xm_E_f q1 ?_
  refine xm_E_s r_X6_hasSpace_6 rfl rfl ?_
  refine xm_E_s r_X6_hasSpace_7 rfl rfl ?_
  exact xm_E_iret r_X6_hasSpace_9 rfl rfl
theorem r_X6_add_0 : co_X6_add[0]? = some ((0, .bipush 24, 0, 0, 0, 0, 24, 0, []) : xm_I) := rfl
theorem r_X6_add_1 : co_X6_add[1]? = some ((2, .istore_n 2, 0, 0, 0, 0, 0, 0, []) : xm_I) := rfl
theorem r_X6_add_2 : co_X6_add[2]? = some ((3, .iload_n 2, 0, 0, 0, 0, 0, 0, []) : xm_I) := rfl
theorem r_X6_add_3 : co_X6_add[3]? = some ((4, .ifCond .lt 42, 0, 0, 25, 0, 0, 0, []) : xm_I) := rfl
theorem r_X6_add_4 : co_X6_add[4]? = some ((7, .aload_n 0, 0, 0, 0, 0, 0, 0, []) : xm_I) := rfl
theorem r_X6_add_5 : co_X6_add[5]? = some ((8, .getfield 19, 145, 5, 1, 0, 0, 0, []) : xm_I) := rfl
theorem r_X6_add_6 : co_X6_add[6]? = some ((11, .sipush 1000, 0, 0, 0, 0, 1000, 0, []) : xm_I) := rfl
theorem r_X6_add_7 : co_X6_add[7]? = some ((14, .if_icmp .ge 26, 0, 0, 23, 0, 0, 0, []) : xm_I) := rfl
theorem r_X6_add_8 : co_X6_add[8]? = some ((17, .aload_n 0, 0, 0, 0, 0, 0, 0, []) : xm_I) := rfl
theorem r_X6_add_9 : co_X6_add[9]? = some ((18, .getfield 11, 144, 5, 0, 2, 0, 0, []) : xm_I) := rfl
theorem r_X6_add_10 : co_X6_add[10]? = some ((21, .aload_n 0, 0, 0, 0, 0, 0, 0, []) : xm_I) := rfl
theorem r_X6_add_11 : co_X6_add[11]? = some ((22, .getfield 19, 145, 5, 1, 0, 0, 0, []) : xm_I) := rfl
theorem r_X6_add_12 : co_X6_add[12]? = some ((25, .iload_n 1, 0, 0, 0, 0, 0, 0, []) : xm_I) := rfl
theorem r_X6_add_13 : co_X6_add[13]? = some ((26, .iload_n 2, 0, 0, 0, 0, 0, 0, []) : xm_I) := rfl
theorem r_X6_add_14 : co_X6_add[14]? = some ((27, .ishr, 0, 0, 0, 0, 0, 0, []) : xm_I) := rfl
theorem r_X6_add_15 : co_X6_add[15]? = some ((28, .i2b, 0, 0, 0, 0, 0, 0, []) : xm_I) := rfl
theorem r_X6_add_16 : co_X6_add[16]? = some ((29, .bastore, 0, 0, 0, 0, 0, 0, []) : xm_I) := rfl
theorem r_X6_add_17 : co_X6_add[17]? = some ((30, .aload_n 0, 0, 0, 0, 0, 0, 0, []) : xm_I) := rfl
theorem r_X6_add_18 : co_X6_add[18]? = some ((31, .dup, 0, 0, 0, 0, 0, 0, []) : xm_I) := rfl
theorem r_X6_add_19 : co_X6_add[19]? = some ((32, .getfield 19, 145, 5, 1, 0, 0, 0, []) : xm_I) := rfl
theorem r_X6_add_20 : co_X6_add[20]? = some ((35, .iconst 1, 0, 0, 0, 0, 1, 0, []) : xm_I) := rfl
theorem r_X6_add_21 : co_X6_add[21]? = some ((36, .iadd, 0, 0, 0, 0, 0, 0, []) : xm_I) := rfl
theorem r_X6_add_22 : co_X6_add[22]? = some ((37, .putfield 19, 145, 5, 1, 0, 0, 0, []) : xm_I) := rfl
theorem r_X6_add_23 : co_X6_add[23]? = some ((40, .iinc 2 (-8), 0, 0, 0, 0, (-8), 0, []) : xm_I) := rfl
theorem r_X6_add_24 : co_X6_add[24]? = some ((43, .goto (-40), 0, 0, 2, 0, 0, 0, []) : xm_I) := rfl
theorem r_X6_add_25 : co_X6_add[25]? = some ((46, .return_, 0, 0, 0, 0, 0, 0, []) : xm_I) := rfl
theorem p_X6_add_0_0 {X : xm_X} {P : List xm_M} {d : Nat} {h : xm_H} {l0 : Nat} {l1 : Int32} {ro : Option Value} {ho : xm_H}  (K : xm_E X P d co_X6_add 2 [some (.ref l0), some (.int l1), some (.int (24 : Int32))] [] h ro ho) : xm_E X P d co_X6_add 0 [some (.ref l0), some (.int l1), none] [] h ro ho := by
  refine xm_E_s r_X6_add_0 rfl rfl ?_
  refine xm_E_s (ls1 := [some (.ref l0), some (.int l1), some (.int (24 : Int32))]) r_X6_add_1 rfl rfl ?_
  exact K
theorem p_X6_add_2_0 {X : xm_X} {P : List xm_M} {d : Nat} {h : xm_H} {l0 : Nat} {l1 : Int32} {l2 : Int32} (q0 : l2 < (0 : Int32)) : xm_E X P d co_X6_add 2 [some (.ref l0), some (.int l1), some (.int l2)] [] h none h := by
  refine xm_E_s r_X6_add_2 rfl rfl ?_
  refine xm_E_s r_X6_add_3 rfl rfl ?_
  refine xm_E_t q0 ?_
  exact xm_E_ret r_X6_add_25 rfl
theorem p_X6_add_2_1 {X : xm_X} {P : List xm_M} {d : Nat} {h : xm_H} {l0 : Nat} {l1 : Int32} {l2 : Int32} {ro : Option Value} {ho : xm_H} (q0 : ¬ (l2 < (0 : Int32))) (q1 : X.1[l0]? = some (.inr 5)) (q2 : (1000 : Int32) ≤ h.1 l0 1) (K : xm_E X P d co_X6_add 2 [some (.ref l0), some (.int l1), some (.int (l2 + (-8 : Int32)))] [] h ro ho) : xm_E X P d co_X6_add 2 [some (.ref l0), some (.int l1), some (.int l2)] [] h ro ho := by
  refine xm_E_s r_X6_add_2 rfl rfl ?_
  refine xm_E_s r_X6_add_3 rfl rfl ?_
  refine xm_E_f q0 ?_
  refine xm_E_s r_X6_add_4 rfl rfl ?_
  refine xm_E_s r_X6_add_5 rfl (xm_T_gi rfl q1 rfl (Or.inl rfl)) ?_
  refine xm_E_s r_X6_add_6 rfl rfl ?_
  refine xm_E_s r_X6_add_7 rfl rfl ?_
  refine xm_E_t q2 ?_
  refine xm_E_s (ls1 := [some (.ref l0), some (.int l1), some (.int (l2 + (-8 : Int32)))]) r_X6_add_23 rfl rfl ?_
  refine xm_E_s r_X6_add_24 rfl rfl ?_
  exact K
theorem p_X6_add_2_2 {X : xm_X} {P : List xm_M} {d : Nat} {h : xm_H} {l0 : Nat} {l1 : Int32} {l2 : Int32} {v0 : Nat} {n1 : Nat} {ro : Option Value} {ho : xm_H} (q0 : ¬ (l2 < (0 : Int32))) (q1 : X.1[l0]? = some (.inr 5)) (q2 : ¬ ((1000 : Int32) ≤ h.1 l0 1)) (q3 : h.2.2 l0 0 = some v0) (q4 : X.1[v0]? = some (.inl (1, n1))) (q5 : ¬ (h.1 l0 1 < 0 ∨ n1 ≤ (h.1 l0 1).toNatClampNeg)) (K : xm_E X P d co_X6_add 2 [some (.ref l0), some (.int l1), some (.int (l2 + (-8 : Int32)))] [] (xm_si (xm_si h v0 ((h.1 l0 1).toNatClampNeg) (vp_nar .byte ((l1 >>> (l2 &&& 31)).toInt8.toInt32))) l0 1 (((xm_si h v0 ((h.1 l0 1).toNatClampNeg) (vp_nar .byte ((l1 >>> (l2 &&& 31)).toInt8.toInt32))).1 l0 1) + (1 : Int32))) ro ho) : xm_E X P d co_X6_add 2 [some (.ref l0), some (.int l1), some (.int l2)] [] h ro ho := by
  refine xm_E_s r_X6_add_2 rfl rfl ?_
  refine xm_E_s r_X6_add_3 rfl rfl ?_
  refine xm_E_f q0 ?_
  refine xm_E_s r_X6_add_4 rfl rfl ?_
  refine xm_E_s r_X6_add_5 rfl (xm_T_gi rfl q1 rfl (Or.inl rfl)) ?_
  refine xm_E_s r_X6_add_6 rfl rfl ?_
  refine xm_E_s r_X6_add_7 rfl rfl ?_
  refine xm_E_f q2 ?_
  refine xm_E_s r_X6_add_8 rfl rfl ?_
  refine xm_E_s r_X6_add_9 rfl (xm_T_gr rfl q1 rfl rfl q3) ?_
  refine xm_E_s r_X6_add_10 rfl rfl ?_
  refine xm_E_s r_X6_add_11 rfl (xm_T_gi rfl q1 rfl (Or.inl rfl)) ?_
  refine xm_E_s r_X6_add_12 rfl rfl ?_
  refine xm_E_s r_X6_add_13 rfl rfl ?_
  refine xm_E_s r_X6_add_14 rfl rfl ?_
  refine xm_E_s r_X6_add_15 rfl rfl ?_
  refine xm_E_s r_X6_add_16 rfl (xm_T_asb rfl q4 q5) ?_
  refine xm_E_s r_X6_add_17 rfl rfl ?_
  refine xm_E_s r_X6_add_18 rfl rfl ?_
  refine xm_E_s r_X6_add_19 rfl (xm_T_gi rfl q1 rfl (Or.inl rfl)) ?_
  refine xm_E_s r_X6_add_20 rfl rfl ?_
  refine xm_E_s r_X6_add_21 rfl rfl ?_
  refine xm_E_s r_X6_add_22 rfl (xm_T_pi rfl q1 rfl rfl) ?_
  refine xm_E_s (ls1 := [some (.ref l0), some (.int l1), some (.int (l2 + (-8 : Int32)))]) r_X6_add_23 rfl rfl ?_
  refine xm_E_s r_X6_add_24 rfl rfl ?_
  exact K
theorem r_X0_clear_0 : co_X0_clear[0]? = some ((0, .aload_n 0, 0, 0, 0, 0, 0, 0, []) : xm_I) := rfl
theorem r_X0_clear_1 : co_X0_clear[1]? = some ((1, .iconst 0, 0, 0, 0, 0, 0, 0, []) : xm_I) := rfl
theorem r_X0_clear_2 : co_X0_clear[2]? = some ((2, .putfield 37, 206, 0, 0, 0, 0, 0, []) : xm_I) := rfl
theorem r_X0_clear_3 : co_X0_clear[3]? = some ((5, .aload_n 0, 0, 0, 0, 0, 0, 0, []) : xm_I) := rfl
theorem r_X0_clear_4 : co_X0_clear[4]? = some ((6, .iconst 0, 0, 0, 0, 0, 0, 0, []) : xm_I) := rfl
theorem r_X0_clear_5 : co_X0_clear[5]? = some ((7, .putfield 41, 210, 0, 1, 0, 0, 0, []) : xm_I) := rfl
theorem r_X0_clear_6 : co_X0_clear[6]? = some ((10, .aload_n 0, 0, 0, 0, 0, 0, 0, []) : xm_I) := rfl
theorem r_X0_clear_7 : co_X0_clear[7]? = some ((11, .iconst 0, 0, 0, 0, 0, 0, 0, []) : xm_I) := rfl
theorem r_X0_clear_8 : co_X0_clear[8]? = some ((12, .putfield 44, 212, 0, 2, 0, 0, 0, []) : xm_I) := rfl
theorem r_X0_clear_9 : co_X0_clear[9]? = some ((15, .aload_n 0, 0, 0, 0, 0, 0, 0, []) : xm_I) := rfl
theorem r_X0_clear_10 : co_X0_clear[10]? = some ((16, .iconst 0, 0, 0, 0, 0, 0, 0, []) : xm_I) := rfl
theorem r_X0_clear_11 : co_X0_clear[11]? = some ((17, .putfield 47, 214, 0, 3, 0, 0, 0, []) : xm_I) := rfl
theorem r_X0_clear_12 : co_X0_clear[12]? = some ((20, .aload_n 0, 0, 0, 0, 0, 0, 0, []) : xm_I) := rfl
theorem r_X0_clear_13 : co_X0_clear[13]? = some ((21, .iconst 0, 0, 0, 0, 0, 0, 0, []) : xm_I) := rfl
theorem r_X0_clear_14 : co_X0_clear[14]? = some ((22, .putfield 50, 216, 0, 4, 0, 0, 0, []) : xm_I) := rfl
theorem r_X0_clear_15 : co_X0_clear[15]? = some ((25, .aload_n 0, 0, 0, 0, 0, 0, 0, []) : xm_I) := rfl
theorem r_X0_clear_16 : co_X0_clear[16]? = some ((26, .iconst 0, 0, 0, 0, 0, 0, 0, []) : xm_I) := rfl
theorem r_X0_clear_17 : co_X0_clear[17]? = some ((27, .putfield 53, 221, 0, 5, 0, 0, 0, []) : xm_I) := rfl
theorem r_X0_clear_18 : co_X0_clear[18]? = some ((30, .aload_n 0, 0, 0, 0, 0, 0, 0, []) : xm_I) := rfl
theorem r_X0_clear_19 : co_X0_clear[19]? = some ((31, .iconst 0, 0, 0, 0, 0, 0, 0, []) : xm_I) := rfl
theorem r_X0_clear_20 : co_X0_clear[20]? = some ((32, .putfield 56, 224, 0, 6, 0, 0, 0, []) : xm_I) := rfl
theorem r_X0_clear_21 : co_X0_clear[21]? = some ((35, .aload_n 0, 0, 0, 0, 0, 0, 0, []) : xm_I) := rfl
theorem r_X0_clear_22 : co_X0_clear[22]? = some ((36, .iconst 0, 0, 0, 0, 0, 0, 0, []) : xm_I) := rfl
theorem r_X0_clear_23 : co_X0_clear[23]? = some ((37, .putfield 59, 227, 0, 7, 0, 0, 0, []) : xm_I) := rfl
theorem r_X0_clear_24 : co_X0_clear[24]? = some ((40, .aload_n 0, 0, 0, 0, 0, 0, 0, []) : xm_I) := rfl
theorem r_X0_clear_25 : co_X0_clear[25]? = some ((41, .iconst 0, 0, 0, 0, 0, 0, 0, []) : xm_I) := rfl
theorem r_X0_clear_26 : co_X0_clear[26]? = some ((42, .putfield 62, 231, 0, 8, 0, 0, 0, []) : xm_I) := rfl
theorem r_X0_clear_27 : co_X0_clear[27]? = some ((45, .aload_n 0, 0, 0, 0, 0, 0, 0, []) : xm_I) := rfl
theorem r_X0_clear_28 : co_X0_clear[28]? = some ((46, .getfield 12, 246, 0, 12, 2, 0, 0, []) : xm_I) := rfl
theorem r_X0_clear_29 : co_X0_clear[29]? = some ((49, .iconst 0, 0, 0, 0, 0, 0, 0, []) : xm_I) := rfl
theorem r_X0_clear_30 : co_X0_clear[30]? = some ((50, .putfield 65, 189, 7, 0, 0, 0, 0, []) : xm_I) := rfl
theorem r_X0_clear_31 : co_X0_clear[31]? = some ((53, .aload_n 0, 0, 0, 0, 0, 0, 0, []) : xm_I) := rfl
theorem r_X0_clear_32 : co_X0_clear[32]? = some ((54, .iconst 0, 0, 0, 0, 0, 0, 0, []) : xm_I) := rfl
theorem r_X0_clear_33 : co_X0_clear[33]? = some ((55, .putfield 68, 235, 0, 9, 0, 0, 0, []) : xm_I) := rfl
theorem r_X0_clear_34 : co_X0_clear[34]? = some ((58, .aload_n 0, 0, 0, 0, 0, 0, 0, []) : xm_I) := rfl
theorem r_X0_clear_35 : co_X0_clear[35]? = some ((59, .iconst 0, 0, 0, 0, 0, 0, 0, []) : xm_I) := rfl
theorem r_X0_clear_36 : co_X0_clear[36]? = some ((60, .putfield 71, 239, 0, 10, 0, 0, 0, []) : xm_I) := rfl
theorem r_X0_clear_37 : co_X0_clear[37]? = some ((63, .aload_n 0, 0, 0, 0, 0, 0, 0, []) : xm_I) := rfl
theorem r_X0_clear_38 : co_X0_clear[38]? = some ((64, .iconst 0, 0, 0, 0, 0, 0, 0, []) : xm_I) := rfl
theorem r_X0_clear_39 : co_X0_clear[39]? = some ((65, .putfield 74, 243, 0, 11, 0, 0, 0, []) : xm_I) := rfl
theorem r_X0_clear_40 : co_X0_clear[40]? = some ((68, .aload_n 0, 0, 0, 0, 0, 0, 0, []) : xm_I) := rfl
theorem r_X0_clear_41 : co_X0_clear[41]? = some ((69, .getfield 18, 250, 0, 13, 2, 0, 0, []) : xm_I) := rfl
theorem r_X0_clear_42 : co_X0_clear[42]? = some ((72, .iconst 5, 0, 0, 0, 0, 5, 0, []) : xm_I) := rfl
theorem r_X0_clear_43 : co_X0_clear[43]? = some ((73, .invokestatic 77, 533, 6, 2, 0, 0, 0, []) : xm_I) := rfl
theorem r_X0_clear_44 : co_X0_clear[44]? = some ((76, .return_, 0, 0, 0, 0, 0, 0, []) : xm_I) := rfl
theorem p_X0_clear_0_0 {X : xm_X} {P : List xm_M} {d : Nat} {h : xm_H} {l0 : Nat} {v0 : Nat} {v1 : Nat} {h2 : xm_H} (q0 : X.1[l0]? = some (.inr 0)) (q1 : (xm_si (xm_si (xm_si (xm_si (xm_si (xm_si (xm_si (xm_si (xm_si h l0 0 (0 : Int32)) l0 1 (0 : Int32)) l0 2 (0 : Int32)) l0 3 (0 : Int32)) l0 4 (0 : Int32)) l0 5 (0 : Int32)) l0 6 (0 : Int32)) l0 7 (0 : Int32)) l0 8 (0 : Int32)).2.2 l0 12 = some v0) (q2 : X.1[v0]? = some (.inr 7)) (q3 : (xm_si (xm_si (xm_si (xm_si (xm_si (xm_si (xm_si (xm_si (xm_si (xm_si (xm_si (xm_si (xm_si h l0 0 (0 : Int32)) l0 1 (0 : Int32)) l0 2 (0 : Int32)) l0 3 (0 : Int32)) l0 4 (0 : Int32)) l0 5 (0 : Int32)) l0 6 (0 : Int32)) l0 7 (0 : Int32)) l0 8 (0 : Int32)) v0 0 (0 : Int32)) l0 9 (0 : Int32)) l0 10 (0 : Int32)) l0 11 (0 : Int32)).2.2 l0 13 = some v1) (q4 : xm_V X P d 6 [.ref v1, .int (5 : Int32)] (xm_si (xm_si (xm_si (xm_si (xm_si (xm_si (xm_si (xm_si (xm_si (xm_si (xm_si (xm_si (xm_si h l0 0 (0 : Int32)) l0 1 (0 : Int32)) l0 2 (0 : Int32)) l0 3 (0 : Int32)) l0 4 (0 : Int32)) l0 5 (0 : Int32)) l0 6 (0 : Int32)) l0 7 (0 : Int32)) l0 8 (0 : Int32)) v0 0 (0 : Int32)) l0 9 (0 : Int32)) l0 10 (0 : Int32)) l0 11 (0 : Int32)) none h2) : xm_E X P d co_X0_clear 0 [some (.ref l0)] [] h none h2 := by
  refine xm_E_s r_X0_clear_0 rfl rfl ?_
  refine xm_E_s r_X0_clear_1 rfl rfl ?_
  refine xm_E_s r_X0_clear_2 rfl (xm_T_pi rfl q0 rfl rfl) ?_
  refine xm_E_s r_X0_clear_3 rfl rfl ?_
  refine xm_E_s r_X0_clear_4 rfl rfl ?_
  refine xm_E_s r_X0_clear_5 rfl (xm_T_pi rfl q0 rfl rfl) ?_
  refine xm_E_s r_X0_clear_6 rfl rfl ?_
  refine xm_E_s r_X0_clear_7 rfl rfl ?_
  refine xm_E_s r_X0_clear_8 rfl (xm_T_pi rfl q0 rfl rfl) ?_
  refine xm_E_s r_X0_clear_9 rfl rfl ?_
  refine xm_E_s r_X0_clear_10 rfl rfl ?_
  refine xm_E_s r_X0_clear_11 rfl (xm_T_pi rfl q0 rfl rfl) ?_
  refine xm_E_s r_X0_clear_12 rfl rfl ?_
  refine xm_E_s r_X0_clear_13 rfl rfl ?_
  refine xm_E_s r_X0_clear_14 rfl (xm_T_pi rfl q0 rfl rfl) ?_
  refine xm_E_s r_X0_clear_15 rfl rfl ?_
  refine xm_E_s r_X0_clear_16 rfl rfl ?_
  refine xm_E_s r_X0_clear_17 rfl (xm_T_pi rfl q0 rfl rfl) ?_
  refine xm_E_s r_X0_clear_18 rfl rfl ?_
  refine xm_E_s r_X0_clear_19 rfl rfl ?_
  refine xm_E_s r_X0_clear_20 rfl (xm_T_pi rfl q0 rfl rfl) ?_
  refine xm_E_s r_X0_clear_21 rfl rfl ?_
  refine xm_E_s r_X0_clear_22 rfl rfl ?_
  refine xm_E_s r_X0_clear_23 rfl (xm_T_pi rfl q0 rfl rfl) ?_
  refine xm_E_s r_X0_clear_24 rfl rfl ?_
  refine xm_E_s r_X0_clear_25 rfl rfl ?_
  refine xm_E_s r_X0_clear_26 rfl (xm_T_pi rfl q0 rfl rfl) ?_
  refine xm_E_s r_X0_clear_27 rfl rfl ?_
  refine xm_E_s r_X0_clear_28 rfl (xm_T_gr rfl q0 rfl rfl q1) ?_
  refine xm_E_s r_X0_clear_29 rfl rfl ?_
  refine xm_E_s r_X0_clear_30 rfl (xm_T_pi rfl q2 rfl rfl) ?_
  refine xm_E_s r_X0_clear_31 rfl rfl ?_
  refine xm_E_s r_X0_clear_32 rfl rfl ?_
  refine xm_E_s r_X0_clear_33 rfl (xm_T_pi rfl q0 rfl rfl) ?_
  refine xm_E_s r_X0_clear_34 rfl rfl ?_
  refine xm_E_s r_X0_clear_35 rfl rfl ?_
  refine xm_E_s r_X0_clear_36 rfl (xm_T_pi rfl q0 rfl rfl) ?_
  refine xm_E_s r_X0_clear_37 rfl rfl ?_
  refine xm_E_s r_X0_clear_38 rfl rfl ?_
  refine xm_E_s r_X0_clear_39 rfl (xm_T_pi rfl q0 rfl rfl) ?_
  refine xm_E_s r_X0_clear_40 rfl rfl ?_
  refine xm_E_s r_X0_clear_41 rfl (xm_T_gr rfl q0 rfl rfl q3) ?_
  refine xm_E_s r_X0_clear_42 rfl rfl ?_
  refine xm_E_cs [.ref v1, .int (5 : Int32)] [] r_X0_clear_43 rfl rfl rfl (Nat.le_of_ble_eq_true rfl) rfl q4 ?_
  exact xm_E_ret r_X0_clear_44 rfl
theorem r_X6_begin_0 : co_X6_begin[0]? = some ((0, .aload_n 0, 0, 0, 0, 0, 0, 0, []) : xm_I) := rfl
theorem r_X6_begin_1 : co_X6_begin[1]? = some ((1, .iconst 0, 0, 0, 0, 0, 0, 0, []) : xm_I) := rfl
theorem r_X6_begin_2 : co_X6_begin[2]? = some ((2, .putfield 22, 147, 5, 2, 0, 0, 0, []) : xm_I) := rfl
theorem r_X6_begin_3 : co_X6_begin[3]? = some ((5, .aload_n 0, 0, 0, 0, 0, 0, 0, []) : xm_I) := rfl
theorem r_X6_begin_4 : co_X6_begin[4]? = some ((6, .iconst (-1), 0, 0, 0, 0, (-1), 0, []) : xm_I) := rfl
theorem r_X6_begin_5 : co_X6_begin[5]? = some ((7, .putfield 15, 149, 5, 3, 0, 0, 0, []) : xm_I) := rfl
theorem r_X6_begin_6 : co_X6_begin[6]? = some ((10, .aload_n 0, 0, 0, 0, 0, 0, 0, []) : xm_I) := rfl
theorem r_X6_begin_7 : co_X6_begin[7]? = some ((11, .iconst 0, 0, 0, 0, 0, 0, 0, []) : xm_I) := rfl
theorem r_X6_begin_8 : co_X6_begin[8]? = some ((12, .putfield 25, 152, 5, 5, 0, 0, 0, []) : xm_I) := rfl
theorem r_X6_begin_9 : co_X6_begin[9]? = some ((15, .aload_n 0, 0, 0, 0, 0, 0, 0, []) : xm_I) := rfl
theorem r_X6_begin_10 : co_X6_begin[10]? = some ((16, .invokevirtual 28, 540, 8, 1, 5, 0, 0, []) : xm_I) := rfl
theorem r_X6_begin_11 : co_X6_begin[11]? = some ((19, .return_, 0, 0, 0, 0, 0, 0, []) : xm_I) := rfl
theorem p_X6_begin_0_0 {X : xm_X} {P : List xm_M} {d : Nat} {h : xm_H} {l0 : Nat} {h0 : xm_H} (q0 : X.1[l0]? = some (.inr 5)) (q1 : xm_V X P d 8 [.ref l0] (xm_si (xm_si (xm_si h l0 2 (0 : Int32)) l0 3 (-1 : Int32)) l0 5 (0 : Int32)) none h0) : xm_E X P d co_X6_begin 0 [some (.ref l0)] [] h none h0 := by
  refine xm_E_s r_X6_begin_0 rfl rfl ?_
  refine xm_E_s r_X6_begin_1 rfl rfl ?_
  refine xm_E_s r_X6_begin_2 rfl (xm_T_pi rfl q0 rfl rfl) ?_
  refine xm_E_s r_X6_begin_3 rfl rfl ?_
  refine xm_E_s r_X6_begin_4 rfl rfl ?_
  refine xm_E_s r_X6_begin_5 rfl (xm_T_pi rfl q0 rfl rfl) ?_
  refine xm_E_s r_X6_begin_6 rfl rfl ?_
  refine xm_E_s r_X6_begin_7 rfl rfl ?_
  refine xm_E_s r_X6_begin_8 rfl (xm_T_pi rfl q0 rfl rfl) ?_
  refine xm_E_s r_X6_begin_9 rfl rfl ?_
  refine xm_E_cv [.ref l0] [] r_X6_begin_10 rfl rfl (Nat.le_of_ble_eq_true rfl) (xm_rc q0 (by decide)) rfl q1 ?_
  exact xm_E_ret r_X6_begin_11 rfl
theorem r_X6_advance_0 : co_X6_advance[0]? = some ((0, .aload_n 0, 0, 0, 0, 0, 0, 0, []) : xm_I) := rfl
theorem r_X6_advance_1 : co_X6_advance[1]? = some ((1, .aload_n 0, 0, 0, 0, 0, 0, 0, []) : xm_I) := rfl
theorem r_X6_advance_2 : co_X6_advance[2]? = some ((2, .getfield 25, 152, 5, 5, 0, 0, 0, []) : xm_I) := rfl
theorem r_X6_advance_3 : co_X6_advance[3]? = some ((5, .putfield 39, 151, 5, 4, 0, 0, 0, []) : xm_I) := rfl
theorem r_X6_advance_4 : co_X6_advance[4]? = some ((8, .aload_n 0, 0, 0, 0, 0, 0, 0, []) : xm_I) := rfl
theorem r_X6_advance_5 : co_X6_advance[5]? = some ((9, .getfield 39, 151, 5, 4, 0, 0, 0, []) : xm_I) := rfl
theorem r_X6_advance_6 : co_X6_advance[6]? = some ((12, .aload_n 0, 0, 0, 0, 0, 0, 0, []) : xm_I) := rfl
theorem r_X6_advance_7 : co_X6_advance[7]? = some ((13, .getfield 19, 145, 5, 1, 0, 0, 0, []) : xm_I) := rfl
theorem r_X6_advance_8 : co_X6_advance[8]? = some ((16, .if_icmp .ge 31, 0, 0, 23, 0, 0, 0, []) : xm_I) := rfl
theorem r_X6_advance_9 : co_X6_advance[9]? = some ((19, .aload_n 0, 0, 0, 0, 0, 0, 0, []) : xm_I) := rfl
theorem r_X6_advance_10 : co_X6_advance[10]? = some ((20, .getfield 11, 144, 5, 0, 2, 0, 0, []) : xm_I) := rfl
theorem r_X6_advance_11 : co_X6_advance[11]? = some ((23, .aload_n 0, 0, 0, 0, 0, 0, 0, []) : xm_I) := rfl
theorem r_X6_advance_12 : co_X6_advance[12]? = some ((24, .getfield 39, 151, 5, 4, 0, 0, 0, []) : xm_I) := rfl
theorem r_X6_advance_13 : co_X6_advance[13]? = some ((27, .baload, 0, 0, 0, 0, 0, 0, []) : xm_I) := rfl
theorem r_X6_advance_14 : co_X6_advance[14]? = some ((28, .invokestatic 192, 544, 9, 1, 0, 0, 0, []) : xm_I) := rfl
theorem r_X6_advance_15 : co_X6_advance[15]? = some ((31, .ifCond .eq 16, 0, 0, 23, 0, 0, 0, []) : xm_I) := rfl
theorem r_X6_advance_16 : co_X6_advance[16]? = some ((34, .aload_n 0, 0, 0, 0, 0, 0, 0, []) : xm_I) := rfl
theorem r_X6_advance_17 : co_X6_advance[17]? = some ((35, .dup, 0, 0, 0, 0, 0, 0, []) : xm_I) := rfl
theorem r_X6_advance_18 : co_X6_advance[18]? = some ((36, .getfield 39, 151, 5, 4, 0, 0, 0, []) : xm_I) := rfl
theorem r_X6_advance_19 : co_X6_advance[19]? = some ((39, .iconst 1, 0, 0, 0, 0, 1, 0, []) : xm_I) := rfl
theorem r_X6_advance_20 : co_X6_advance[20]? = some ((40, .iadd, 0, 0, 0, 0, 0, 0, []) : xm_I) := rfl
theorem r_X6_advance_21 : co_X6_advance[21]? = some ((41, .putfield 39, 151, 5, 4, 0, 0, 0, []) : xm_I) := rfl
theorem r_X6_advance_22 : co_X6_advance[22]? = some ((44, .goto (-36), 0, 0, 4, 0, 0, 0, []) : xm_I) := rfl
theorem r_X6_advance_23 : co_X6_advance[23]? = some ((47, .aload_n 0, 0, 0, 0, 0, 0, 0, []) : xm_I) := rfl
theorem r_X6_advance_24 : co_X6_advance[24]? = some ((48, .aload_n 0, 0, 0, 0, 0, 0, 0, []) : xm_I) := rfl
theorem r_X6_advance_25 : co_X6_advance[25]? = some ((49, .getfield 39, 151, 5, 4, 0, 0, 0, []) : xm_I) := rfl
theorem r_X6_advance_26 : co_X6_advance[26]? = some ((52, .aload_n 0, 0, 0, 0, 0, 0, 0, []) : xm_I) := rfl
theorem r_X6_advance_27 : co_X6_advance[27]? = some ((53, .getfield 19, 145, 5, 1, 0, 0, 0, []) : xm_I) := rfl
theorem r_X6_advance_28 : co_X6_advance[28]? = some ((56, .if_icmp .ge 18, 0, 0, 36, 0, 0, 0, []) : xm_I) := rfl
theorem r_X6_advance_29 : co_X6_advance[29]? = some ((59, .aload_n 0, 0, 0, 0, 0, 0, 0, []) : xm_I) := rfl
theorem r_X6_advance_30 : co_X6_advance[30]? = some ((60, .getfield 11, 144, 5, 0, 2, 0, 0, []) : xm_I) := rfl
theorem r_X6_advance_31 : co_X6_advance[31]? = some ((63, .aload_n 0, 0, 0, 0, 0, 0, 0, []) : xm_I) := rfl
theorem r_X6_advance_32 : co_X6_advance[32]? = some ((64, .getfield 39, 151, 5, 4, 0, 0, 0, []) : xm_I) := rfl
theorem r_X6_advance_33 : co_X6_advance[33]? = some ((67, .baload, 0, 0, 0, 0, 0, 0, []) : xm_I) := rfl
theorem r_X6_advance_34 : co_X6_advance[34]? = some ((68, .invokestatic 196, 547, 10, 1, 0, 0, 0, []) : xm_I) := rfl
theorem r_X6_advance_35 : co_X6_advance[35]? = some ((71, .goto 4, 0, 0, 37, 0, 0, 0, []) : xm_I) := rfl
theorem r_X6_advance_36 : co_X6_advance[36]? = some ((74, .iconst 0, 0, 0, 0, 0, 0, 0, []) : xm_I) := rfl
theorem r_X6_advance_37 : co_X6_advance[37]? = some ((75, .putfield 31, 153, 5, 6, 0, 0, 0, []) : xm_I) := rfl
theorem r_X6_advance_38 : co_X6_advance[38]? = some ((78, .aload_n 0, 0, 0, 0, 0, 0, 0, []) : xm_I) := rfl
theorem r_X6_advance_39 : co_X6_advance[39]? = some ((79, .aload_n 0, 0, 0, 0, 0, 0, 0, []) : xm_I) := rfl
theorem r_X6_advance_40 : co_X6_advance[40]? = some ((80, .getfield 31, 153, 5, 6, 0, 0, 0, []) : xm_I) := rfl
theorem r_X6_advance_41 : co_X6_advance[41]? = some ((83, .ifCond .ne 10, 0, 0, 45, 0, 0, 0, []) : xm_I) := rfl
theorem r_X6_advance_42 : co_X6_advance[42]? = some ((86, .aload_n 0, 0, 0, 0, 0, 0, 0, []) : xm_I) := rfl
theorem r_X6_advance_43 : co_X6_advance[43]? = some ((87, .getfield 39, 151, 5, 4, 0, 0, 0, []) : xm_I) := rfl
theorem r_X6_advance_44 : co_X6_advance[44]? = some ((90, .goto 9, 0, 0, 49, 0, 0, 0, []) : xm_I) := rfl
theorem r_X6_advance_45 : co_X6_advance[45]? = some ((93, .aload_n 0, 0, 0, 0, 0, 0, 0, []) : xm_I) := rfl
theorem r_X6_advance_46 : co_X6_advance[46]? = some ((94, .getfield 39, 151, 5, 4, 0, 0, 0, []) : xm_I) := rfl
theorem r_X6_advance_47 : co_X6_advance[47]? = some ((97, .iconst 1, 0, 0, 0, 0, 1, 0, []) : xm_I) := rfl
theorem r_X6_advance_48 : co_X6_advance[48]? = some ((98, .iadd, 0, 0, 0, 0, 0, 0, []) : xm_I) := rfl
theorem r_X6_advance_49 : co_X6_advance[49]? = some ((99, .putfield 25, 152, 5, 5, 0, 0, 0, []) : xm_I) := rfl
theorem r_X6_advance_50 : co_X6_advance[50]? = some ((102, .aload_n 0, 0, 0, 0, 0, 0, 0, []) : xm_I) := rfl
theorem r_X6_advance_51 : co_X6_advance[51]? = some ((103, .getfield 25, 152, 5, 5, 0, 0, 0, []) : xm_I) := rfl
theorem r_X6_advance_52 : co_X6_advance[52]? = some ((106, .aload_n 0, 0, 0, 0, 0, 0, 0, []) : xm_I) := rfl
theorem r_X6_advance_53 : co_X6_advance[53]? = some ((107, .getfield 19, 145, 5, 1, 0, 0, 0, []) : xm_I) := rfl
theorem r_X6_advance_54 : co_X6_advance[54]? = some ((110, .if_icmp .ge 51, 0, 0, 79, 0, 0, 0, []) : xm_I) := rfl
theorem r_X6_advance_55 : co_X6_advance[55]? = some ((113, .aload_n 0, 0, 0, 0, 0, 0, 0, []) : xm_I) := rfl
theorem r_X6_advance_56 : co_X6_advance[56]? = some ((114, .getfield 31, 153, 5, 6, 0, 0, 0, []) : xm_I) := rfl
theorem r_X6_advance_57 : co_X6_advance[57]? = some ((117, .iconst 1, 0, 0, 0, 0, 1, 0, []) : xm_I) := rfl
theorem r_X6_advance_58 : co_X6_advance[58]? = some ((118, .if_icmp .eq 11, 0, 0, 63, 0, 0, 0, []) : xm_I) := rfl
theorem r_X6_advance_59 : co_X6_advance[59]? = some ((121, .aload_n 0, 0, 0, 0, 0, 0, 0, []) : xm_I) := rfl
theorem r_X6_advance_60 : co_X6_advance[60]? = some ((122, .getfield 31, 153, 5, 6, 0, 0, 0, []) : xm_I) := rfl
theorem r_X6_advance_61 : co_X6_advance[61]? = some ((125, .iconst 2, 0, 0, 0, 0, 2, 0, []) : xm_I) := rfl
theorem r_X6_advance_62 : co_X6_advance[62]? = some ((126, .if_icmp .ne 35, 0, 0, 79, 0, 0, 0, []) : xm_I) := rfl
theorem r_X6_advance_63 : co_X6_advance[63]? = some ((129, .aload_n 0, 0, 0, 0, 0, 0, 0, []) : xm_I) := rfl
theorem r_X6_advance_64 : co_X6_advance[64]? = some ((130, .getfield 11, 144, 5, 0, 2, 0, 0, []) : xm_I) := rfl
theorem r_X6_advance_65 : co_X6_advance[65]? = some ((133, .aload_n 0, 0, 0, 0, 0, 0, 0, []) : xm_I) := rfl
theorem r_X6_advance_66 : co_X6_advance[66]? = some ((134, .getfield 25, 152, 5, 5, 0, 0, 0, []) : xm_I) := rfl
theorem r_X6_advance_67 : co_X6_advance[67]? = some ((137, .baload, 0, 0, 0, 0, 0, 0, []) : xm_I) := rfl
theorem r_X6_advance_68 : co_X6_advance[68]? = some ((138, .invokestatic 196, 547, 10, 1, 0, 0, 0, []) : xm_I) := rfl
theorem r_X6_advance_69 : co_X6_advance[69]? = some ((141, .aload_n 0, 0, 0, 0, 0, 0, 0, []) : xm_I) := rfl
theorem r_X6_advance_70 : co_X6_advance[70]? = some ((142, .getfield 31, 153, 5, 6, 0, 0, 0, []) : xm_I) := rfl
theorem r_X6_advance_71 : co_X6_advance[71]? = some ((145, .if_icmp .ne 16, 0, 0, 79, 0, 0, 0, []) : xm_I) := rfl
theorem r_X6_advance_72 : co_X6_advance[72]? = some ((148, .aload_n 0, 0, 0, 0, 0, 0, 0, []) : xm_I) := rfl
theorem r_X6_advance_73 : co_X6_advance[73]? = some ((149, .dup, 0, 0, 0, 0, 0, 0, []) : xm_I) := rfl
theorem r_X6_advance_74 : co_X6_advance[74]? = some ((150, .getfield 25, 152, 5, 5, 0, 0, 0, []) : xm_I) := rfl
theorem r_X6_advance_75 : co_X6_advance[75]? = some ((153, .iconst 1, 0, 0, 0, 0, 1, 0, []) : xm_I) := rfl
theorem r_X6_advance_76 : co_X6_advance[76]? = some ((154, .iadd, 0, 0, 0, 0, 0, 0, []) : xm_I) := rfl
theorem r_X6_advance_77 : co_X6_advance[77]? = some ((155, .putfield 25, 152, 5, 5, 0, 0, 0, []) : xm_I) := rfl
theorem r_X6_advance_78 : co_X6_advance[78]? = some ((158, .goto (-56), 0, 0, 50, 0, 0, 0, []) : xm_I) := rfl
theorem r_X6_advance_79 : co_X6_advance[79]? = some ((161, .return_, 0, 0, 0, 0, 0, 0, []) : xm_I) := rfl
theorem p_X6_advance_0_0 {X : xm_X} {P : List xm_M} {d : Nat} {h : xm_H} {l0 : Nat} {ro : Option Value} {ho : xm_H} (q0 : X.1[l0]? = some (.inr 5)) (K : xm_E X P d co_X6_advance 4 [some (.ref l0)] [] (xm_si h l0 4 (h.1 l0 5)) ro ho) : xm_E X P d co_X6_advance 0 [some (.ref l0)] [] h ro ho := by
  refine xm_E_s r_X6_advance_0 rfl rfl ?_
  refine xm_E_s r_X6_advance_1 rfl rfl ?_
  refine xm_E_s r_X6_advance_2 rfl (xm_T_gi rfl q0 rfl (Or.inl rfl)) ?_
  refine xm_E_s r_X6_advance_3 rfl (xm_T_pi rfl q0 rfl rfl) ?_
  exact K
theorem p_X6_advance_4_0 {X : xm_X} {P : List xm_M} {d : Nat} {h : xm_H} {l0 : Nat} {ro : Option Value} {ho : xm_H} (q0 : X.1[l0]? = some (.inr 5)) (q1 : h.1 l0 1 ≤ h.1 l0 4) (q2 : (xm_si h l0 6 (0 : Int32)).1 l0 6 = (0 : Int32)) (K : xm_E X P d co_X6_advance 50 [some (.ref l0)] [] (xm_si (xm_si h l0 6 (0 : Int32)) l0 5 ((xm_si h l0 6 (0 : Int32)).1 l0 4)) ro ho) : xm_E X P d co_X6_advance 4 [some (.ref l0)] [] h ro ho := by
  refine xm_E_s r_X6_advance_4 rfl rfl ?_
  refine xm_E_s r_X6_advance_5 rfl (xm_T_gi rfl q0 rfl (Or.inl rfl)) ?_
  refine xm_E_s r_X6_advance_6 rfl rfl ?_
  refine xm_E_s r_X6_advance_7 rfl (xm_T_gi rfl q0 rfl (Or.inl rfl)) ?_
  refine xm_E_s r_X6_advance_8 rfl rfl ?_
  refine xm_E_t q1 ?_
  refine xm_E_s r_X6_advance_23 rfl rfl ?_
  refine xm_E_s r_X6_advance_24 rfl rfl ?_
  refine xm_E_s r_X6_advance_25 rfl (xm_T_gi rfl q0 rfl (Or.inl rfl)) ?_
  refine xm_E_s r_X6_advance_26 rfl rfl ?_
  refine xm_E_s r_X6_advance_27 rfl (xm_T_gi rfl q0 rfl (Or.inl rfl)) ?_
  refine xm_E_s r_X6_advance_28 rfl rfl ?_
  refine xm_E_t q1 ?_
  refine xm_E_s r_X6_advance_36 rfl rfl ?_
  refine xm_E_s r_X6_advance_37 rfl (xm_T_pi rfl q0 rfl rfl) ?_
  refine xm_E_s r_X6_advance_38 rfl rfl ?_
  refine xm_E_s r_X6_advance_39 rfl rfl ?_
  refine xm_E_s r_X6_advance_40 rfl (xm_T_gi rfl q0 rfl (Or.inl rfl)) ?_
  refine xm_E_s r_X6_advance_41 rfl rfl ?_
  refine xm_E_t q2 ?_
  refine xm_E_s r_X6_advance_42 rfl rfl ?_
  refine xm_E_s r_X6_advance_43 rfl (xm_T_gi rfl q0 rfl (Or.inl rfl)) ?_
  refine xm_E_s r_X6_advance_44 rfl rfl ?_
  refine xm_E_s r_X6_advance_49 rfl (xm_T_pi rfl q0 rfl rfl) ?_
  exact K
theorem p_X6_advance_4_1 {X : xm_X} {P : List xm_M} {d : Nat} {h : xm_H} {l0 : Nat} {ro : Option Value} {ho : xm_H} (q0 : X.1[l0]? = some (.inr 5)) (q1 : h.1 l0 1 ≤ h.1 l0 4) (q2 : ¬ ((xm_si h l0 6 (0 : Int32)).1 l0 6 = (0 : Int32))) (K : xm_E X P d co_X6_advance 50 [some (.ref l0)] [] (xm_si (xm_si h l0 6 (0 : Int32)) l0 5 (((xm_si h l0 6 (0 : Int32)).1 l0 4) + (1 : Int32))) ro ho) : xm_E X P d co_X6_advance 4 [some (.ref l0)] [] h ro ho := by
  refine xm_E_s r_X6_advance_4 rfl rfl ?_
  refine xm_E_s r_X6_advance_5 rfl (xm_T_gi rfl q0 rfl (Or.inl rfl)) ?_
  refine xm_E_s r_X6_advance_6 rfl rfl ?_
  refine xm_E_s r_X6_advance_7 rfl (xm_T_gi rfl q0 rfl (Or.inl rfl)) ?_
  refine xm_E_s r_X6_advance_8 rfl rfl ?_
  refine xm_E_t q1 ?_
  refine xm_E_s r_X6_advance_23 rfl rfl ?_
  refine xm_E_s r_X6_advance_24 rfl rfl ?_
  refine xm_E_s r_X6_advance_25 rfl (xm_T_gi rfl q0 rfl (Or.inl rfl)) ?_
  refine xm_E_s r_X6_advance_26 rfl rfl ?_
  refine xm_E_s r_X6_advance_27 rfl (xm_T_gi rfl q0 rfl (Or.inl rfl)) ?_
  refine xm_E_s r_X6_advance_28 rfl rfl ?_
  refine xm_E_t q1 ?_
  refine xm_E_s r_X6_advance_36 rfl rfl ?_
  refine xm_E_s r_X6_advance_37 rfl (xm_T_pi rfl q0 rfl rfl) ?_
  refine xm_E_s r_X6_advance_38 rfl rfl ?_
  refine xm_E_s r_X6_advance_39 rfl rfl ?_
  refine xm_E_s r_X6_advance_40 rfl (xm_T_gi rfl q0 rfl (Or.inl rfl)) ?_
  refine xm_E_s r_X6_advance_41 rfl rfl ?_
  refine xm_E_f q2 ?_
  refine xm_E_s r_X6_advance_45 rfl rfl ?_
  refine xm_E_s r_X6_advance_46 rfl (xm_T_gi rfl q0 rfl (Or.inl rfl)) ?_
  refine xm_E_s r_X6_advance_47 rfl rfl ?_
  refine xm_E_s r_X6_advance_48 rfl rfl ?_
  refine xm_E_s r_X6_advance_49 rfl (xm_T_pi rfl q0 rfl rfl) ?_
  exact K
theorem p_X6_advance_4_2 {X : xm_X} {P : List xm_M} {d : Nat} {h : xm_H} {l0 : Nat} {v0 : Nat} {n1 : Nat} {b1 : Nat} {h2 : xm_H} {r2 : Int32} {ro : Option Value} {ho : xm_H} (q0 : X.1[l0]? = some (.inr 5)) (q1 : ¬ (h.1 l0 1 ≤ h.1 l0 4)) (q2 : h.2.2 l0 0 = some v0) (q3 : X.1[v0]? = some (.inl (b1, n1))) (q4 : ¬ (h.1 l0 4 < 0 ∨ n1 ≤ (h.1 l0 4).toNatClampNeg)) (q5 : 1 ≤ b1 ∧ b1 ≤ 2) (q6 : xm_V X P d 9 [.int (h.1 v0 ((h.1 l0 4).toNatClampNeg))] h (some (.int r2)) h2) (q7 : r2 = (0 : Int32)) (q8 : h2.1 l0 1 ≤ h2.1 l0 4) (q9 : (xm_si h2 l0 6 (0 : Int32)).1 l0 6 = (0 : Int32)) (K : xm_E X P d co_X6_advance 50 [some (.ref l0)] [] (xm_si (xm_si h2 l0 6 (0 : Int32)) l0 5 ((xm_si h2 l0 6 (0 : Int32)).1 l0 4)) ro ho) : xm_E X P d co_X6_advance 4 [some (.ref l0)] [] h ro ho := by
  refine xm_E_s r_X6_advance_4 rfl rfl ?_
  refine xm_E_s r_X6_advance_5 rfl (xm_T_gi rfl q0 rfl (Or.inl rfl)) ?_
  refine xm_E_s r_X6_advance_6 rfl rfl ?_
  refine xm_E_s r_X6_advance_7 rfl (xm_T_gi rfl q0 rfl (Or.inl rfl)) ?_
  refine xm_E_s r_X6_advance_8 rfl rfl ?_
  refine xm_E_f q1 ?_
  refine xm_E_s r_X6_advance_9 rfl rfl ?_
  refine xm_E_s r_X6_advance_10 rfl (xm_T_gr rfl q0 rfl rfl q2) ?_
  refine xm_E_s r_X6_advance_11 rfl rfl ?_
  refine xm_E_s r_X6_advance_12 rfl (xm_T_gi rfl q0 rfl (Or.inl rfl)) ?_
  refine xm_E_s r_X6_advance_13 rfl (xm_T_bald rfl q3 q5 q4) ?_
  refine xm_E_cs [.int (h.1 v0 ((h.1 l0 4).toNatClampNeg))] [] r_X6_advance_14 rfl rfl rfl (Nat.le_of_ble_eq_true rfl) rfl q6 ?_
  refine xm_E_s r_X6_advance_15 rfl rfl ?_
  refine xm_E_t q7 ?_
  refine xm_E_s r_X6_advance_23 rfl rfl ?_
  refine xm_E_s r_X6_advance_24 rfl rfl ?_
  refine xm_E_s r_X6_advance_25 rfl (xm_T_gi rfl q0 rfl (Or.inl rfl)) ?_
  refine xm_E_s r_X6_advance_26 rfl rfl ?_
  refine xm_E_s r_X6_advance_27 rfl (xm_T_gi rfl q0 rfl (Or.inl rfl)) ?_
  refine xm_E_s r_X6_advance_28 rfl rfl ?_
  refine xm_E_t q8 ?_
  refine xm_E_s r_X6_advance_36 rfl rfl ?_
  refine xm_E_s r_X6_advance_37 rfl (xm_T_pi rfl q0 rfl rfl) ?_
  refine xm_E_s r_X6_advance_38 rfl rfl ?_
  refine xm_E_s r_X6_advance_39 rfl rfl ?_
  refine xm_E_s r_X6_advance_40 rfl (xm_T_gi rfl q0 rfl (Or.inl rfl)) ?_
  refine xm_E_s r_X6_advance_41 rfl rfl ?_
  refine xm_E_t q9 ?_
  refine xm_E_s r_X6_advance_42 rfl rfl ?_
  refine xm_E_s r_X6_advance_43 rfl (xm_T_gi rfl q0 rfl (Or.inl rfl)) ?_
  refine xm_E_s r_X6_advance_44 rfl rfl ?_
  refine xm_E_s r_X6_advance_49 rfl (xm_T_pi rfl q0 rfl rfl) ?_
  exact K
theorem p_X6_advance_4_3 {X : xm_X} {P : List xm_M} {d : Nat} {h : xm_H} {l0 : Nat} {v0 : Nat} {n1 : Nat} {b1 : Nat} {h2 : xm_H} {r2 : Int32} {ro : Option Value} {ho : xm_H} (q0 : X.1[l0]? = some (.inr 5)) (q1 : ¬ (h.1 l0 1 ≤ h.1 l0 4)) (q2 : h.2.2 l0 0 = some v0) (q3 : X.1[v0]? = some (.inl (b1, n1))) (q4 : ¬ (h.1 l0 4 < 0 ∨ n1 ≤ (h.1 l0 4).toNatClampNeg)) (q5 : 1 ≤ b1 ∧ b1 ≤ 2) (q6 : xm_V X P d 9 [.int (h.1 v0 ((h.1 l0 4).toNatClampNeg))] h (some (.int r2)) h2) (q7 : r2 = (0 : Int32)) (q8 : h2.1 l0 1 ≤ h2.1 l0 4) (q9 : ¬ ((xm_si h2 l0 6 (0 : Int32)).1 l0 6 = (0 : Int32))) (K : xm_E X P d co_X6_advance 50 [some (.ref l0)] [] (xm_si (xm_si h2 l0 6 (0 : Int32)) l0 5 (((xm_si h2 l0 6 (0 : Int32)).1 l0 4) + (1 : Int32))) ro ho) : xm_E X P d co_X6_advance 4 [some (.ref l0)] [] h ro ho := by
  refine xm_E_s r_X6_advance_4 rfl rfl ?_
  refine xm_E_s r_X6_advance_5 rfl (xm_T_gi rfl q0 rfl (Or.inl rfl)) ?_
  refine xm_E_s r_X6_advance_6 rfl rfl ?_
  refine xm_E_s r_X6_advance_7 rfl (xm_T_gi rfl q0 rfl (Or.inl rfl)) ?_
  refine xm_E_s r_X6_advance_8 rfl rfl ?_
  refine xm_E_f q1 ?_
  refine xm_E_s r_X6_advance_9 rfl rfl ?_
  refine xm_E_s r_X6_advance_10 rfl (xm_T_gr rfl q0 rfl rfl q2) ?_
  refine xm_E_s r_X6_advance_11 rfl rfl ?_
  refine xm_E_s r_X6_advance_12 rfl (xm_T_gi rfl q0 rfl (Or.inl rfl)) ?_
  refine xm_E_s r_X6_advance_13 rfl (xm_T_bald rfl q3 q5 q4) ?_
  refine xm_E_cs [.int (h.1 v0 ((h.1 l0 4).toNatClampNeg))] [] r_X6_advance_14 rfl rfl rfl (Nat.le_of_ble_eq_true rfl) rfl q6 ?_
  refine xm_E_s r_X6_advance_15 rfl rfl ?_
  refine xm_E_t q7 ?_
  refine xm_E_s r_X6_advance_23 rfl rfl ?_
  refine xm_E_s r_X6_advance_24 rfl rfl ?_
  refine xm_E_s r_X6_advance_25 rfl (xm_T_gi rfl q0 rfl (Or.inl rfl)) ?_
  refine xm_E_s r_X6_advance_26 rfl rfl ?_
  refine xm_E_s r_X6_advance_27 rfl (xm_T_gi rfl q0 rfl (Or.inl rfl)) ?_
  refine xm_E_s r_X6_advance_28 rfl rfl ?_
  refine xm_E_t q8 ?_
  refine xm_E_s r_X6_advance_36 rfl rfl ?_
  refine xm_E_s r_X6_advance_37 rfl (xm_T_pi rfl q0 rfl rfl) ?_
  refine xm_E_s r_X6_advance_38 rfl rfl ?_
  refine xm_E_s r_X6_advance_39 rfl rfl ?_
  refine xm_E_s r_X6_advance_40 rfl (xm_T_gi rfl q0 rfl (Or.inl rfl)) ?_
  refine xm_E_s r_X6_advance_41 rfl rfl ?_
  refine xm_E_f q9 ?_
  refine xm_E_s r_X6_advance_45 rfl rfl ?_
  refine xm_E_s r_X6_advance_46 rfl (xm_T_gi rfl q0 rfl (Or.inl rfl)) ?_
  refine xm_E_s r_X6_advance_47 rfl rfl ?_
  refine xm_E_s r_X6_advance_48 rfl rfl ?_
  refine xm_E_s r_X6_advance_49 rfl (xm_T_pi rfl q0 rfl rfl) ?_
  exact K
theorem p_X6_advance_4_4 {X : xm_X} {P : List xm_M} {d : Nat} {h : xm_H} {l0 : Nat} {v0 : Nat} {n1 : Nat} {b1 : Nat} {h2 : xm_H} {r2 : Int32} {v3 : Nat} {n4 : Nat} {b4 : Nat} {h5 : xm_H} {r5 : Int32} {ro : Option Value} {ho : xm_H} (q0 : X.1[l0]? = some (.inr 5)) (q1 : ¬ (h.1 l0 1 ≤ h.1 l0 4)) (q2 : h.2.2 l0 0 = some v0) (q3 : X.1[v0]? = some (.inl (b1, n1))) (q4 : ¬ (h.1 l0 4 < 0 ∨ n1 ≤ (h.1 l0 4).toNatClampNeg)) (q5 : 1 ≤ b1 ∧ b1 ≤ 2) (q6 : xm_V X P d 9 [.int (h.1 v0 ((h.1 l0 4).toNatClampNeg))] h (some (.int r2)) h2) (q7 : r2 = (0 : Int32)) (q8 : ¬ (h2.1 l0 1 ≤ h2.1 l0 4)) (q9 : h2.2.2 l0 0 = some v3) (q10 : X.1[v3]? = some (.inl (b4, n4))) (q11 : ¬ (h2.1 l0 4 < 0 ∨ n4 ≤ (h2.1 l0 4).toNatClampNeg)) (q12 : 1 ≤ b4 ∧ b4 ≤ 2) (q13 : xm_V X P d 10 [.int (h2.1 v3 ((h2.1 l0 4).toNatClampNeg))] h2 (some (.int r5)) h5) (q14 : (xm_si h5 l0 6 r5).1 l0 6 = (0 : Int32)) (K : xm_E X P d co_X6_advance 50 [some (.ref l0)] [] (xm_si (xm_si h5 l0 6 r5) l0 5 ((xm_si h5 l0 6 r5).1 l0 4)) ro ho) : xm_E X P d co_X6_advance 4 [some (.ref l0)] [] h ro ho := by
  refine xm_E_s r_X6_advance_4 rfl rfl ?_
  refine xm_E_s r_X6_advance_5 rfl (xm_T_gi rfl q0 rfl (Or.inl rfl)) ?_
  refine xm_E_s r_X6_advance_6 rfl rfl ?_
  refine xm_E_s r_X6_advance_7 rfl (xm_T_gi rfl q0 rfl (Or.inl rfl)) ?_
  refine xm_E_s r_X6_advance_8 rfl rfl ?_
  refine xm_E_f q1 ?_
  refine xm_E_s r_X6_advance_9 rfl rfl ?_
  refine xm_E_s r_X6_advance_10 rfl (xm_T_gr rfl q0 rfl rfl q2) ?_
  refine xm_E_s r_X6_advance_11 rfl rfl ?_
  refine xm_E_s r_X6_advance_12 rfl (xm_T_gi rfl q0 rfl (Or.inl rfl)) ?_
  refine xm_E_s r_X6_advance_13 rfl (xm_T_bald rfl q3 q5 q4) ?_
  refine xm_E_cs [.int (h.1 v0 ((h.1 l0 4).toNatClampNeg))] [] r_X6_advance_14 rfl rfl rfl (Nat.le_of_ble_eq_true rfl) rfl q6 ?_
  refine xm_E_s r_X6_advance_15 rfl rfl ?_
  refine xm_E_t q7 ?_
  refine xm_E_s r_X6_advance_23 rfl rfl ?_
  refine xm_E_s r_X6_advance_24 rfl rfl ?_
  refine xm_E_s r_X6_advance_25 rfl (xm_T_gi rfl q0 rfl (Or.inl rfl)) ?_
  refine xm_E_s r_X6_advance_26 rfl rfl ?_
  refine xm_E_s r_X6_advance_27 rfl (xm_T_gi rfl q0 rfl (Or.inl rfl)) ?_
  refine xm_E_s r_X6_advance_28 rfl rfl ?_
  refine xm_E_f q8 ?_
  refine xm_E_s r_X6_advance_29 rfl rfl ?_
  refine xm_E_s r_X6_advance_30 rfl (xm_T_gr rfl q0 rfl rfl q9) ?_
  refine xm_E_s r_X6_advance_31 rfl rfl ?_
  refine xm_E_s r_X6_advance_32 rfl (xm_T_gi rfl q0 rfl (Or.inl rfl)) ?_
  refine xm_E_s r_X6_advance_33 rfl (xm_T_bald rfl q10 q12 q11) ?_
  refine xm_E_cs [.int (h2.1 v3 ((h2.1 l0 4).toNatClampNeg))] [.ref l0] r_X6_advance_34 rfl rfl rfl (Nat.le_of_ble_eq_true rfl) rfl q13 ?_
  refine xm_E_s r_X6_advance_35 rfl rfl ?_
  refine xm_E_s r_X6_advance_37 rfl (xm_T_pi rfl q0 rfl rfl) ?_
  refine xm_E_s r_X6_advance_38 rfl rfl ?_
  refine xm_E_s r_X6_advance_39 rfl rfl ?_
  refine xm_E_s r_X6_advance_40 rfl (xm_T_gi rfl q0 rfl (Or.inl rfl)) ?_
  refine xm_E_s r_X6_advance_41 rfl rfl ?_
  refine xm_E_t q14 ?_
  refine xm_E_s r_X6_advance_42 rfl rfl ?_
  refine xm_E_s r_X6_advance_43 rfl (xm_T_gi rfl q0 rfl (Or.inl rfl)) ?_
  refine xm_E_s r_X6_advance_44 rfl rfl ?_
  refine xm_E_s r_X6_advance_49 rfl (xm_T_pi rfl q0 rfl rfl) ?_
  exact K
theorem p_X6_advance_4_5 {X : xm_X} {P : List xm_M} {d : Nat} {h : xm_H} {l0 : Nat} {v0 : Nat} {n1 : Nat} {b1 : Nat} {h2 : xm_H} {r2 : Int32} {v3 : Nat} {n4 : Nat} {b4 : Nat} {h5 : xm_H} {r5 : Int32} {ro : Option Value} {ho : xm_H} (q0 : X.1[l0]? = some (.inr 5)) (q1 : ¬ (h.1 l0 1 ≤ h.1 l0 4)) (q2 : h.2.2 l0 0 = some v0) (q3 : X.1[v0]? = some (.inl (b1, n1))) (q4 : ¬ (h.1 l0 4 < 0 ∨ n1 ≤ (h.1 l0 4).toNatClampNeg)) (q5 : 1 ≤ b1 ∧ b1 ≤ 2) (q6 : xm_V X P d 9 [.int (h.1 v0 ((h.1 l0 4).toNatClampNeg))] h (some (.int r2)) h2) (q7 : r2 = (0 : Int32)) (q8 : ¬ (h2.1 l0 1 ≤ h2.1 l0 4)) (q9 : h2.2.2 l0 0 = some v3) (q10 : X.1[v3]? = some (.inl (b4, n4))) (q11 : ¬ (h2.1 l0 4 < 0 ∨ n4 ≤ (h2.1 l0 4).toNatClampNeg)) (q12 : 1 ≤ b4 ∧ b4 ≤ 2) (q13 : xm_V X P d 10 [.int (h2.1 v3 ((h2.1 l0 4).toNatClampNeg))] h2 (some (.int r5)) h5) (q14 : ¬ ((xm_si h5 l0 6 r5).1 l0 6 = (0 : Int32))) (K : xm_E X P d co_X6_advance 50 [some (.ref l0)] [] (xm_si (xm_si h5 l0 6 r5) l0 5 (((xm_si h5 l0 6 r5).1 l0 4) + (1 : Int32))) ro ho) : xm_E X P d co_X6_advance 4 [some (.ref l0)] [] h ro ho := by
  refine xm_E_s r_X6_advance_4 rfl rfl ?_
  refine xm_E_s r_X6_advance_5 rfl (xm_T_gi rfl q0 rfl (Or.inl rfl)) ?_
  refine xm_E_s r_X6_advance_6 rfl rfl ?_
  refine xm_E_s r_X6_advance_7 rfl (xm_T_gi rfl q0 rfl (Or.inl rfl)) ?_
  refine xm_E_s r_X6_advance_8 rfl rfl ?_
  refine xm_E_f q1 ?_
  refine xm_E_s r_X6_advance_9 rfl rfl ?_
  refine xm_E_s r_X6_advance_10 rfl (xm_T_gr rfl q0 rfl rfl q2) ?_
  refine xm_E_s r_X6_advance_11 rfl rfl ?_
  refine xm_E_s r_X6_advance_12 rfl (xm_T_gi rfl q0 rfl (Or.inl rfl)) ?_
  refine xm_E_s r_X6_advance_13 rfl (xm_T_bald rfl q3 q5 q4) ?_
  refine xm_E_cs [.int (h.1 v0 ((h.1 l0 4).toNatClampNeg))] [] r_X6_advance_14 rfl rfl rfl (Nat.le_of_ble_eq_true rfl) rfl q6 ?_
  refine xm_E_s r_X6_advance_15 rfl rfl ?_
  refine xm_E_t q7 ?_
  refine xm_E_s r_X6_advance_23 rfl rfl ?_
  refine xm_E_s r_X6_advance_24 rfl rfl ?_
  refine xm_E_s r_X6_advance_25 rfl (xm_T_gi rfl q0 rfl (Or.inl rfl)) ?_
  refine xm_E_s r_X6_advance_26 rfl rfl ?_
  refine xm_E_s r_X6_advance_27 rfl (xm_T_gi rfl q0 rfl (Or.inl rfl)) ?_
  refine xm_E_s r_X6_advance_28 rfl rfl ?_
  refine xm_E_f q8 ?_
  refine xm_E_s r_X6_advance_29 rfl rfl ?_
  refine xm_E_s r_X6_advance_30 rfl (xm_T_gr rfl q0 rfl rfl q9) ?_
  refine xm_E_s r_X6_advance_31 rfl rfl ?_
  refine xm_E_s r_X6_advance_32 rfl (xm_T_gi rfl q0 rfl (Or.inl rfl)) ?_
  refine xm_E_s r_X6_advance_33 rfl (xm_T_bald rfl q10 q12 q11) ?_
  refine xm_E_cs [.int (h2.1 v3 ((h2.1 l0 4).toNatClampNeg))] [.ref l0] r_X6_advance_34 rfl rfl rfl (Nat.le_of_ble_eq_true rfl) rfl q13 ?_
  refine xm_E_s r_X6_advance_35 rfl rfl ?_
  refine xm_E_s r_X6_advance_37 rfl (xm_T_pi rfl q0 rfl rfl) ?_
  refine xm_E_s r_X6_advance_38 rfl rfl ?_
  refine xm_E_s r_X6_advance_39 rfl rfl ?_
  refine xm_E_s r_X6_advance_40 rfl (xm_T_gi rfl q0 rfl (Or.inl rfl)) ?_
  refine xm_E_s r_X6_advance_41 rfl rfl ?_
  refine xm_E_f q14 ?_
  refine xm_E_s r_X6_advance_45 rfl rfl ?_
  refine xm_E_s r_X6_advance_46 rfl (xm_T_gi rfl q0 rfl (Or.inl rfl)) ?_
  refine xm_E_s r_X6_advance_47 rfl rfl ?_
  refine xm_E_s r_X6_advance_48 rfl rfl ?_
  refine xm_E_s r_X6_advance_49 rfl (xm_T_pi rfl q0 rfl rfl) ?_
  exact K
theorem p_X6_advance_4_6 {X : xm_X} {P : List xm_M} {d : Nat} {h : xm_H} {l0 : Nat} {v0 : Nat} {n1 : Nat} {b1 : Nat} {h2 : xm_H} {r2 : Int32} {ro : Option Value} {ho : xm_H} (q0 : X.1[l0]? = some (.inr 5)) (q1 : ¬ (h.1 l0 1 ≤ h.1 l0 4)) (q2 : h.2.2 l0 0 = some v0) (q3 : X.1[v0]? = some (.inl (b1, n1))) (q4 : ¬ (h.1 l0 4 < 0 ∨ n1 ≤ (h.1 l0 4).toNatClampNeg)) (q5 : 1 ≤ b1 ∧ b1 ≤ 2) (q6 : xm_V X P d 9 [.int (h.1 v0 ((h.1 l0 4).toNatClampNeg))] h (some (.int r2)) h2) (q7 : ¬ (r2 = (0 : Int32))) (K : xm_E X P d co_X6_advance 4 [some (.ref l0)] [] (xm_si h2 l0 4 ((h2.1 l0 4) + (1 : Int32))) ro ho) : xm_E X P d co_X6_advance 4 [some (.ref l0)] [] h ro ho := by
  refine xm_E_s r_X6_advance_4 rfl rfl ?_
  refine xm_E_s r_X6_advance_5 rfl (xm_T_gi rfl q0 rfl (Or.inl rfl)) ?_
  refine xm_E_s r_X6_advance_6 rfl rfl ?_
  refine xm_E_s r_X6_advance_7 rfl (xm_T_gi rfl q0 rfl (Or.inl rfl)) ?_
  refine xm_E_s r_X6_advance_8 rfl rfl ?_
  refine xm_E_f q1 ?_
  refine xm_E_s r_X6_advance_9 rfl rfl ?_
  refine xm_E_s r_X6_advance_10 rfl (xm_T_gr rfl q0 rfl rfl q2) ?_
  refine xm_E_s r_X6_advance_11 rfl rfl ?_
  refine xm_E_s r_X6_advance_12 rfl (xm_T_gi rfl q0 rfl (Or.inl rfl)) ?_
  refine xm_E_s r_X6_advance_13 rfl (xm_T_bald rfl q3 q5 q4) ?_
  refine xm_E_cs [.int (h.1 v0 ((h.1 l0 4).toNatClampNeg))] [] r_X6_advance_14 rfl rfl rfl (Nat.le_of_ble_eq_true rfl) rfl q6 ?_
  refine xm_E_s r_X6_advance_15 rfl rfl ?_
  refine xm_E_f q7 ?_
  refine xm_E_s r_X6_advance_16 rfl rfl ?_
  refine xm_E_s r_X6_advance_17 rfl rfl ?_
  refine xm_E_s r_X6_advance_18 rfl (xm_T_gi rfl q0 rfl (Or.inl rfl)) ?_
  refine xm_E_s r_X6_advance_19 rfl rfl ?_
  refine xm_E_s r_X6_advance_20 rfl rfl ?_
  refine xm_E_s r_X6_advance_21 rfl (xm_T_pi rfl q0 rfl rfl) ?_
  refine xm_E_s r_X6_advance_22 rfl rfl ?_
  exact K
theorem p_X6_advance_50_0 {X : xm_X} {P : List xm_M} {d : Nat} {h : xm_H} {l0 : Nat} (q0 : X.1[l0]? = some (.inr 5)) (q1 : h.1 l0 1 ≤ h.1 l0 5) : xm_E X P d co_X6_advance 50 [some (.ref l0)] [] h none h := by
  refine xm_E_s r_X6_advance_50 rfl rfl ?_
  refine xm_E_s r_X6_advance_51 rfl (xm_T_gi rfl q0 rfl (Or.inl rfl)) ?_
  refine xm_E_s r_X6_advance_52 rfl rfl ?_
  refine xm_E_s r_X6_advance_53 rfl (xm_T_gi rfl q0 rfl (Or.inl rfl)) ?_
  refine xm_E_s r_X6_advance_54 rfl rfl ?_
  refine xm_E_t q1 ?_
  exact xm_E_ret r_X6_advance_79 rfl
theorem p_X6_advance_50_1 {X : xm_X} {P : List xm_M} {d : Nat} {h : xm_H} {l0 : Nat} {v0 : Nat} {n1 : Nat} {b1 : Nat} {h2 : xm_H} {r2 : Int32} {ro : Option Value} {ho : xm_H} (q0 : X.1[l0]? = some (.inr 5)) (q1 : ¬ (h.1 l0 1 ≤ h.1 l0 5)) (q2 : h.1 l0 6 = (1 : Int32)) (q3 : h.2.2 l0 0 = some v0) (q4 : X.1[v0]? = some (.inl (b1, n1))) (q5 : ¬ (h.1 l0 5 < 0 ∨ n1 ≤ (h.1 l0 5).toNatClampNeg)) (q6 : 1 ≤ b1 ∧ b1 ≤ 2) (q7 : xm_V X P d 10 [.int (h.1 v0 ((h.1 l0 5).toNatClampNeg))] h (some (.int r2)) h2) (q8 : r2 = h2.1 l0 6) (K : xm_E X P d co_X6_advance 50 [some (.ref l0)] [] (xm_si h2 l0 5 ((h2.1 l0 5) + (1 : Int32))) ro ho) : xm_E X P d co_X6_advance 50 [some (.ref l0)] [] h ro ho := by
  refine xm_E_s r_X6_advance_50 rfl rfl ?_
  refine xm_E_s r_X6_advance_51 rfl (xm_T_gi rfl q0 rfl (Or.inl rfl)) ?_
  refine xm_E_s r_X6_advance_52 rfl rfl ?_
  refine xm_E_s r_X6_advance_53 rfl (xm_T_gi rfl q0 rfl (Or.inl rfl)) ?_
  refine xm_E_s r_X6_advance_54 rfl rfl ?_
  refine xm_E_f q1 ?_
  refine xm_E_s r_X6_advance_55 rfl rfl ?_
  refine xm_E_s r_X6_advance_56 rfl (xm_T_gi rfl q0 rfl (Or.inl rfl)) ?_
  refine xm_E_s r_X6_advance_57 rfl rfl ?_
  refine xm_E_s r_X6_advance_58 rfl rfl ?_
  refine xm_E_t q2 ?_
  refine xm_E_s r_X6_advance_63 rfl rfl ?_
  refine xm_E_s r_X6_advance_64 rfl (xm_T_gr rfl q0 rfl rfl q3) ?_
  refine xm_E_s r_X6_advance_65 rfl rfl ?_
  refine xm_E_s r_X6_advance_66 rfl (xm_T_gi rfl q0 rfl (Or.inl rfl)) ?_
  refine xm_E_s r_X6_advance_67 rfl (xm_T_bald rfl q4 q6 q5) ?_
  refine xm_E_cs [.int (h.1 v0 ((h.1 l0 5).toNatClampNeg))] [] r_X6_advance_68 rfl rfl rfl (Nat.le_of_ble_eq_true rfl) rfl q7 ?_
  refine xm_E_s r_X6_advance_69 rfl rfl ?_
  refine xm_E_s r_X6_advance_70 rfl (xm_T_gi rfl q0 rfl (Or.inl rfl)) ?_
  refine xm_E_s r_X6_advance_71 rfl rfl ?_
  refine xm_E_t q8 ?_
  refine xm_E_s r_X6_advance_72 rfl rfl ?_
  refine xm_E_s r_X6_advance_73 rfl rfl ?_
  refine xm_E_s r_X6_advance_74 rfl (xm_T_gi rfl q0 rfl (Or.inl rfl)) ?_
  refine xm_E_s r_X6_advance_75 rfl rfl ?_
  refine xm_E_s r_X6_advance_76 rfl rfl ?_
  refine xm_E_s r_X6_advance_77 rfl (xm_T_pi rfl q0 rfl rfl) ?_
  refine xm_E_s r_X6_advance_78 rfl rfl ?_
  exact K
theorem p_X6_advance_50_2 {X : xm_X} {P : List xm_M} {d : Nat} {h : xm_H} {l0 : Nat} {v0 : Nat} {n1 : Nat} {b1 : Nat} {h2 : xm_H} {r2 : Int32} (q0 : X.1[l0]? = some (.inr 5)) (q1 : ¬ (h.1 l0 1 ≤ h.1 l0 5)) (q2 : h.1 l0 6 = (1 : Int32)) (q3 : h.2.2 l0 0 = some v0) (q4 : X.1[v0]? = some (.inl (b1, n1))) (q5 : ¬ (h.1 l0 5 < 0 ∨ n1 ≤ (h.1 l0 5).toNatClampNeg)) (q6 : 1 ≤ b1 ∧ b1 ≤ 2) (q7 : xm_V X P d 10 [.int (h.1 v0 ((h.1 l0 5).toNatClampNeg))] h (some (.int r2)) h2) (q8 : ¬ (r2 = h2.1 l0 6)) : xm_E X P d co_X6_advance 50 [some (.ref l0)] [] h none h2 := by
  refine xm_E_s r_X6_advance_50 rfl rfl ?_
  refine xm_E_s r_X6_advance_51 rfl (xm_T_gi rfl q0 rfl (Or.inl rfl)) ?_
  refine xm_E_s r_X6_advance_52 rfl rfl ?_
  refine xm_E_s r_X6_advance_53 rfl (xm_T_gi rfl q0 rfl (Or.inl rfl)) ?_
  refine xm_E_s r_X6_advance_54 rfl rfl ?_
  refine xm_E_f q1 ?_
  refine xm_E_s r_X6_advance_55 rfl rfl ?_
  refine xm_E_s r_X6_advance_56 rfl (xm_T_gi rfl q0 rfl (Or.inl rfl)) ?_
  refine xm_E_s r_X6_advance_57 rfl rfl ?_
  refine xm_E_s r_X6_advance_58 rfl rfl ?_
  refine xm_E_t q2 ?_
  refine xm_E_s r_X6_advance_63 rfl rfl ?_
  refine xm_E_s r_X6_advance_64 rfl (xm_T_gr rfl q0 rfl rfl q3) ?_
  refine xm_E_s r_X6_advance_65 rfl rfl ?_
  refine xm_E_s r_X6_advance_66 rfl (xm_T_gi rfl q0 rfl (Or.inl rfl)) ?_
  refine xm_E_s r_X6_advance_67 rfl (xm_T_bald rfl q4 q6 q5) ?_
  refine xm_E_cs [.int (h.1 v0 ((h.1 l0 5).toNatClampNeg))] [] r_X6_advance_68 rfl rfl rfl (Nat.le_of_ble_eq_true rfl) rfl q7 ?_
  refine xm_E_s r_X6_advance_69 rfl rfl ?_
  refine xm_E_s r_X6_advance_70 rfl (xm_T_gi rfl q0 rfl (Or.inl rfl)) ?_
  refine xm_E_s r_X6_advance_71 rfl rfl ?_
  refine xm_E_f q8 ?_
  exact xm_E_ret r_X6_advance_79 rfl
theorem p_X6_advance_50_3 {X : xm_X} {P : List xm_M} {d : Nat} {h : xm_H} {l0 : Nat} {v0 : Nat} {n1 : Nat} {b1 : Nat} {h2 : xm_H} {r2 : Int32} {ro : Option Value} {ho : xm_H} (q0 : X.1[l0]? = some (.inr 5)) (q1 : ¬ (h.1 l0 1 ≤ h.1 l0 5)) (q2 : ¬ (h.1 l0 6 = (1 : Int32))) (q3 : h.1 l0 6 = (2 : Int32)) (q4 : h.2.2 l0 0 = some v0) (q5 : X.1[v0]? = some (.inl (b1, n1))) (q6 : ¬ (h.1 l0 5 < 0 ∨ n1 ≤ (h.1 l0 5).toNatClampNeg)) (q7 : 1 ≤ b1 ∧ b1 ≤ 2) (q8 : xm_V X P d 10 [.int (h.1 v0 ((h.1 l0 5).toNatClampNeg))] h (some (.int r2)) h2) (q9 : r2 = h2.1 l0 6) (K : xm_E X P d co_X6_advance 50 [some (.ref l0)] [] (xm_si h2 l0 5 ((h2.1 l0 5) + (1 : Int32))) ro ho) : xm_E X P d co_X6_advance 50 [some (.ref l0)] [] h ro ho := by
  refine xm_E_s r_X6_advance_50 rfl rfl ?_
  refine xm_E_s r_X6_advance_51 rfl (xm_T_gi rfl q0 rfl (Or.inl rfl)) ?_
  refine xm_E_s r_X6_advance_52 rfl rfl ?_
  refine xm_E_s r_X6_advance_53 rfl (xm_T_gi rfl q0 rfl (Or.inl rfl)) ?_
  refine xm_E_s r_X6_advance_54 rfl rfl ?_
  refine xm_E_f q1 ?_
  refine xm_E_s r_X6_advance_55 rfl rfl ?_
  refine xm_E_s r_X6_advance_56 rfl (xm_T_gi rfl q0 rfl (Or.inl rfl)) ?_
  refine xm_E_s r_X6_advance_57 rfl rfl ?_
  refine xm_E_s r_X6_advance_58 rfl rfl ?_
  refine xm_E_f q2 ?_
  refine xm_E_s r_X6_advance_59 rfl rfl ?_
  refine xm_E_s r_X6_advance_60 rfl (xm_T_gi rfl q0 rfl (Or.inl rfl)) ?_
  refine xm_E_s r_X6_advance_61 rfl rfl ?_
  refine xm_E_s r_X6_advance_62 rfl rfl ?_
  refine xm_E_t q3 ?_
  refine xm_E_s r_X6_advance_63 rfl rfl ?_
  refine xm_E_s r_X6_advance_64 rfl (xm_T_gr rfl q0 rfl rfl q4) ?_
  refine xm_E_s r_X6_advance_65 rfl rfl ?_
  refine xm_E_s r_X6_advance_66 rfl (xm_T_gi rfl q0 rfl (Or.inl rfl)) ?_
  refine xm_E_s r_X6_advance_67 rfl (xm_T_bald rfl q5 q7 q6) ?_
  refine xm_E_cs [.int (h.1 v0 ((h.1 l0 5).toNatClampNeg))] [] r_X6_advance_68 rfl rfl rfl (Nat.le_of_ble_eq_true rfl) rfl q8 ?_
  refine xm_E_s r_X6_advance_69 rfl rfl ?_
  refine xm_E_s r_X6_advance_70 rfl (xm_T_gi rfl q0 rfl (Or.inl rfl)) ?_
  refine xm_E_s r_X6_advance_71 rfl rfl ?_
  refine xm_E_t q9 ?_
  refine xm_E_s r_X6_advance_72 rfl rfl ?_
  refine xm_E_s r_X6_advance_73 rfl rfl ?_
  refine xm_E_s r_X6_advance_74 rfl (xm_T_gi rfl q0 rfl (Or.inl rfl)) ?_
  refine xm_E_s r_X6_advance_75 rfl rfl ?_
  refine xm_E_s r_X6_advance_76 rfl rfl ?_
  refine xm_E_s r_X6_advance_77 rfl (xm_T_pi rfl q0 rfl rfl) ?_
  refine xm_E_s r_X6_advance_78 rfl rfl ?_
  exact K
theorem p_X6_advance_50_4 {X : xm_X} {P : List xm_M} {d : Nat} {h : xm_H} {l0 : Nat} {v0 : Nat} {n1 : Nat} {b1 : Nat} {h2 : xm_H} {r2 : Int32} (q0 : X.1[l0]? = some (.inr 5)) (q1 : ¬ (h.1 l0 1 ≤ h.1 l0 5)) (q2 : ¬ (h.1 l0 6 = (1 : Int32))) (q3 : h.1 l0 6 = (2 : Int32)) (q4 : h.2.2 l0 0 = some v0) (q5 : X.1[v0]? = some (.inl (b1, n1))) (q6 : ¬ (h.1 l0 5 < 0 ∨ n1 ≤ (h.1 l0 5).toNatClampNeg)) (q7 : 1 ≤ b1 ∧ b1 ≤ 2) (q8 : xm_V X P d 10 [.int (h.1 v0 ((h.1 l0 5).toNatClampNeg))] h (some (.int r2)) h2) (q9 : ¬ (r2 = h2.1 l0 6)) : xm_E X P d co_X6_advance 50 [some (.ref l0)] [] h none h2 := by
  refine xm_E_s r_X6_advance_50 rfl rfl ?_
  refine xm_E_s r_X6_advance_51 rfl (xm_T_gi rfl q0 rfl (Or.inl rfl)) ?_
  refine xm_E_s r_X6_advance_52 rfl rfl ?_
  refine xm_E_s r_X6_advance_53 rfl (xm_T_gi rfl q0 rfl (Or.inl rfl)) ?_
  refine xm_E_s r_X6_advance_54 rfl rfl ?_
  refine xm_E_f q1 ?_
  refine xm_E_s r_X6_advance_55 rfl rfl ?_
  refine xm_E_s r_X6_advance_56 rfl (xm_T_gi rfl q0 rfl (Or.inl rfl)) ?_
  refine xm_E_s r_X6_advance_57 rfl rfl ?_
  refine xm_E_s r_X6_advance_58 rfl rfl ?_
  refine xm_E_f q2 ?_
  refine xm_E_s r_X6_advance_59 rfl rfl ?_
  refine xm_E_s r_X6_advance_60 rfl (xm_T_gi rfl q0 rfl (Or.inl rfl)) ?_
  refine xm_E_s r_X6_advance_61 rfl rfl ?_
  refine xm_E_s r_X6_advance_62 rfl rfl ?_
  refine xm_E_t q3 ?_
  refine xm_E_s r_X6_advance_63 rfl rfl ?_
  refine xm_E_s r_X6_advance_64 rfl (xm_T_gr rfl q0 rfl rfl q4) ?_
  refine xm_E_s r_X6_advance_65 rfl rfl ?_
  refine xm_E_s r_X6_advance_66 rfl (xm_T_gi rfl q0 rfl (Or.inl rfl)) ?_
  refine xm_E_s r_X6_advance_67 rfl (xm_T_bald rfl q5 q7 q6) ?_
  refine xm_E_cs [.int (h.1 v0 ((h.1 l0 5).toNatClampNeg))] [] r_X6_advance_68 rfl rfl rfl (Nat.le_of_ble_eq_true rfl) rfl q8 ?_
  refine xm_E_s r_X6_advance_69 rfl rfl ?_
  refine xm_E_s r_X6_advance_70 rfl (xm_T_gi rfl q0 rfl (Or.inl rfl)) ?_
  refine xm_E_s r_X6_advance_71 rfl rfl ?_
  refine xm_E_f q9 ?_
  exact xm_E_ret r_X6_advance_79 rfl
theorem p_X6_advance_50_5 {X : xm_X} {P : List xm_M} {d : Nat} {h : xm_H} {l0 : Nat} (q0 : X.1[l0]? = some (.inr 5)) (q1 : ¬ (h.1 l0 1 ≤ h.1 l0 5)) (q2 : ¬ (h.1 l0 6 = (1 : Int32))) (q3 : ¬ (h.1 l0 6 = (2 : Int32))) : xm_E X P d co_X6_advance 50 [some (.ref l0)] [] h none h := by
  refine xm_E_s r_X6_advance_50 rfl rfl ?_
  refine xm_E_s r_X6_advance_51 rfl (xm_T_gi rfl q0 rfl (Or.inl rfl)) ?_
  refine xm_E_s r_X6_advance_52 rfl rfl ?_
  refine xm_E_s r_X6_advance_53 rfl (xm_T_gi rfl q0 rfl (Or.inl rfl)) ?_
  refine xm_E_s r_X6_advance_54 rfl rfl ?_
  refine xm_E_f q1 ?_
  refine xm_E_s r_X6_advance_55 rfl rfl ?_
  refine xm_E_s r_X6_advance_56 rfl (xm_T_gi rfl q0 rfl (Or.inl rfl)) ?_
  refine xm_E_s r_X6_advance_57 rfl rfl ?_
  refine xm_E_s r_X6_advance_58 rfl rfl ?_
  refine xm_E_f q2 ?_
  refine xm_E_s r_X6_advance_59 rfl rfl ?_
  refine xm_E_s r_X6_advance_60 rfl (xm_T_gi rfl q0 rfl (Or.inl rfl)) ?_
  refine xm_E_s r_X6_advance_61 rfl rfl ?_
  refine xm_E_s r_X6_advance_62 rfl rfl ?_
  refine xm_E_f q3 ?_
  exact xm_E_ret r_X6_advance_79 rfl
theorem r_X6_isBlank_0 : co_X6_isBlank[0]? = some ((0, .iload_n 0, 0, 0, 0, 0, 0, 0, []) : xm_I) := rfl
theorem r_X6_isBlank_1 : co_X6_isBlank[1]? = some ((1, .bipush 32, 0, 0, 0, 0, 32, 0, []) : xm_I) := rfl
theorem r_X6_isBlank_2 : co_X6_isBlank[2]? = some ((3, .if_icmp .eq 9, 0, 0, 6, 0, 0, 0, []) : xm_I) := rfl
theorem r_X6_isBlank_3 : co_X6_isBlank[3]? = some ((6, .iload_n 0, 0, 0, 0, 0, 0, 0, []) : xm_I) := rfl
theorem r_X6_isBlank_4 : co_X6_isBlank[4]? = some ((7, .bipush 10, 0, 0, 0, 0, 10, 0, []) : xm_I) := rfl
theorem r_X6_isBlank_5 : co_X6_isBlank[5]? = some ((9, .if_icmp .ne 7, 0, 0, 8, 0, 0, 0, []) : xm_I) := rfl
theorem r_X6_isBlank_6 : co_X6_isBlank[6]? = some ((12, .iconst 1, 0, 0, 0, 0, 1, 0, []) : xm_I) := rfl
theorem r_X6_isBlank_7 : co_X6_isBlank[7]? = some ((13, .goto 4, 0, 0, 9, 0, 0, 0, []) : xm_I) := rfl
theorem r_X6_isBlank_8 : co_X6_isBlank[8]? = some ((16, .iconst 0, 0, 0, 0, 0, 0, 0, []) : xm_I) := rfl
theorem r_X6_isBlank_9 : co_X6_isBlank[9]? = some ((17, .ireturn, 0, 0, 0, 3, 0, 0, []) : xm_I) := rfl
theorem p_X6_isBlank_0_0 {X : xm_X} {P : List xm_M} {d : Nat} {h : xm_H} {l0 : Int32} (q0 : l0 = (32 : Int32)) : xm_E X P d co_X6_isBlank 0 [some (.int l0)] [] h (some (.int (1 : Int32))) h := by
  refine xm_E_s r_X6_isBlank_0 rfl rfl ?_
  refine xm_E_s r_X6_isBlank_1 rfl rfl ?_
  refine xm_E_s r_X6_isBlank_2 rfl rfl ?_
  refine xm_E_t q0 ?_
  refine xm_E_s r_X6_isBlank_6 rfl rfl ?_
  refine xm_E_s r_X6_isBlank_7 rfl rfl ?_
  exact xm_E_iret r_X6_isBlank_9 rfl rfl
theorem p_X6_isBlank_0_1 {X : xm_X} {P : List xm_M} {d : Nat} {h : xm_H} {l0 : Int32} (q0 : ¬ (l0 = (32 : Int32))) (q1 : l0 = (10 : Int32)) : xm_E X P d co_X6_isBlank 0 [some (.int l0)] [] h (some (.int (1 : Int32))) h := by
  refine xm_E_s r_X6_isBlank_0 rfl rfl ?_
  refine xm_E_s r_X6_isBlank_1 rfl rfl ?_
  refine xm_E_s r_X6_isBlank_2 rfl rfl ?_
  refine xm_E_f q0 ?_
  refine xm_E_s r_X6_isBlank_3 rfl rfl ?_
  refine xm_E_s r_X6_isBlank_4 rfl rfl ?_
  refine xm_E_s r_X6_isBlank_5 rfl rfl ?_
  refine xm_E_t q1 ?_
  refine xm_E_s r_X6_isBlank_6 rfl rfl ?_
  refine xm_E_s r_X6_isBlank_7 rfl rfl ?_
  exact xm_E_iret r_X6_isBlank_9 rfl rfl
theorem p_X6_isBlank_0_2 {X : xm_X} {P : List xm_M} {d : Nat} {h : xm_H} {l0 : Int32} (q0 : ¬ (l0 = (32 : Int32))) (q1 : ¬ (l0 = (10 : Int32))) : xm_E X P d co_X6_isBlank 0 [some (.int l0)] [] h (some (.int (0 : Int32))) h := by
  refine xm_E_s r_X6_isBlank_0 rfl rfl ?_
  refine xm_E_s r_X6_isBlank_1 rfl rfl ?_
  refine xm_E_s r_X6_isBlank_2 rfl rfl ?_
  refine xm_E_f q0 ?_
  refine xm_E_s r_X6_isBlank_3 rfl rfl ?_
  refine xm_E_s r_X6_isBlank_4 rfl rfl ?_
  refine xm_E_s r_X6_isBlank_5 rfl rfl ?_
  refine xm_E_f q1 ?_
  refine xm_E_s r_X6_isBlank_8 rfl rfl ?_
  exact xm_E_iret r_X6_isBlank_9 rfl rfl
theorem r_X6_kindOf_0 : co_X6_kindOf[0]? = some ((0, .iload_n 0, 0, 0, 0, 0, 0, 0, []) : xm_I) := rfl
theorem r_X6_kindOf_1 : co_X6_kindOf[1]? = some ((1, .bipush 97, 0, 0, 0, 0, 97, 0, []) : xm_I) := rfl
theorem r_X6_kindOf_2 : co_X6_kindOf[2]? = some ((3, .if_icmp .lt 11, 0, 0, 8, 0, 0, 0, []) : xm_I) := rfl
theorem r_X6_kindOf_3 : co_X6_kindOf[3]? = some ((6, .iload_n 0, 0, 0, 0, 0, 0, 0, []) : xm_I) := rfl
theorem r_X6_kindOf_4 : co_X6_kindOf[4]? = some ((7, .bipush 122, 0, 0, 0, 0, 122, 0, []) : xm_I) := rfl
theorem r_X6_kindOf_5 : co_X6_kindOf[5]? = some ((9, .if_icmp .gt 5, 0, 0, 8, 0, 0, 0, []) : xm_I) := rfl
theorem r_X6_kindOf_6 : co_X6_kindOf[6]? = some ((12, .iconst 1, 0, 0, 0, 0, 1, 0, []) : xm_I) := rfl
theorem r_X6_kindOf_7 : co_X6_kindOf[7]? = some ((13, .ireturn, 0, 0, 0, 0, 0, 0, []) : xm_I) := rfl
theorem r_X6_kindOf_8 : co_X6_kindOf[8]? = some ((14, .iload_n 0, 0, 0, 0, 0, 0, 0, []) : xm_I) := rfl
theorem r_X6_kindOf_9 : co_X6_kindOf[9]? = some ((15, .bipush 48, 0, 0, 0, 0, 48, 0, []) : xm_I) := rfl
theorem r_X6_kindOf_10 : co_X6_kindOf[10]? = some ((17, .if_icmp .lt 11, 0, 0, 16, 0, 0, 0, []) : xm_I) := rfl
theorem r_X6_kindOf_11 : co_X6_kindOf[11]? = some ((20, .iload_n 0, 0, 0, 0, 0, 0, 0, []) : xm_I) := rfl
theorem r_X6_kindOf_12 : co_X6_kindOf[12]? = some ((21, .bipush 57, 0, 0, 0, 0, 57, 0, []) : xm_I) := rfl
theorem r_X6_kindOf_13 : co_X6_kindOf[13]? = some ((23, .if_icmp .gt 5, 0, 0, 16, 0, 0, 0, []) : xm_I) := rfl
theorem r_X6_kindOf_14 : co_X6_kindOf[14]? = some ((26, .iconst 2, 0, 0, 0, 0, 2, 0, []) : xm_I) := rfl
theorem r_X6_kindOf_15 : co_X6_kindOf[15]? = some ((27, .ireturn, 0, 0, 0, 0, 0, 0, []) : xm_I) := rfl
theorem r_X6_kindOf_16 : co_X6_kindOf[16]? = some ((28, .iload_n 0, 0, 0, 0, 0, 0, 0, []) : xm_I) := rfl
theorem r_X6_kindOf_17 : co_X6_kindOf[17]? = some ((29, .bipush 59, 0, 0, 0, 0, 59, 0, []) : xm_I) := rfl
theorem r_X6_kindOf_18 : co_X6_kindOf[18]? = some ((31, .if_icmp .ne 7, 0, 0, 21, 0, 0, 0, []) : xm_I) := rfl
theorem r_X6_kindOf_19 : co_X6_kindOf[19]? = some ((34, .iconst 3, 0, 0, 0, 0, 3, 0, []) : xm_I) := rfl
theorem r_X6_kindOf_20 : co_X6_kindOf[20]? = some ((35, .goto 4, 0, 0, 22, 0, 0, 0, []) : xm_I) := rfl
theorem r_X6_kindOf_21 : co_X6_kindOf[21]? = some ((38, .iconst 4, 0, 0, 0, 0, 4, 0, []) : xm_I) := rfl
theorem r_X6_kindOf_22 : co_X6_kindOf[22]? = some ((39, .ireturn, 0, 0, 0, 0, 0, 0, []) : xm_I) := rfl
theorem p_X6_kindOf_0_0 {X : xm_X} {P : List xm_M} {d : Nat} {h : xm_H} {l0 : Int32} (q0 : l0 < (97 : Int32)) (q1 : l0 < (48 : Int32)) (q2 : l0 = (59 : Int32)) : xm_E X P d co_X6_kindOf 0 [some (.int l0)] [] h (some (.int (3 : Int32))) h := by
  refine xm_E_s r_X6_kindOf_0 rfl rfl ?_
  refine xm_E_s r_X6_kindOf_1 rfl rfl ?_
  refine xm_E_s r_X6_kindOf_2 rfl rfl ?_
  refine xm_E_t q0 ?_
  refine xm_E_s r_X6_kindOf_8 rfl rfl ?_
  refine xm_E_s r_X6_kindOf_9 rfl rfl ?_
  refine xm_E_s r_X6_kindOf_10 rfl rfl ?_
  refine xm_E_t q1 ?_
  refine xm_E_s r_X6_kindOf_16 rfl rfl ?_
  refine xm_E_s r_X6_kindOf_17 rfl rfl ?_
  refine xm_E_s r_X6_kindOf_18 rfl rfl ?_
  refine xm_E_t q2 ?_
  refine xm_E_s r_X6_kindOf_19 rfl rfl ?_
  refine xm_E_s r_X6_kindOf_20 rfl rfl ?_
  exact xm_E_iret r_X6_kindOf_22 rfl rfl
theorem p_X6_kindOf_0_1 {X : xm_X} {P : List xm_M} {d : Nat} {h : xm_H} {l0 : Int32} (q0 : l0 < (97 : Int32)) (q1 : l0 < (48 : Int32)) (q2 : ¬ (l0 = (59 : Int32))) : xm_E X P d co_X6_kindOf 0 [some (.int l0)] [] h (some (.int (4 : Int32))) h := by
  refine xm_E_s r_X6_kindOf_0 rfl rfl ?_
  refine xm_E_s r_X6_kindOf_1 rfl rfl ?_
  refine xm_E_s r_X6_kindOf_2 rfl rfl ?_
  refine xm_E_t q0 ?_
  refine xm_E_s r_X6_kindOf_8 rfl rfl ?_
  refine xm_E_s r_X6_kindOf_9 rfl rfl ?_
  refine xm_E_s r_X6_kindOf_10 rfl rfl ?_
  refine xm_E_t q1 ?_
  refine xm_E_s r_X6_kindOf_16 rfl rfl ?_
  refine xm_E_s r_X6_kindOf_17 rfl rfl ?_
  refine xm_E_s r_X6_kindOf_18 rfl rfl ?_
  refine xm_E_f q2 ?_
  refine xm_E_s r_X6_kindOf_21 rfl rfl ?_
  exact xm_E_iret r_X6_kindOf_22 rfl rfl
theorem p_X6_kindOf_0_2 {X : xm_X} {P : List xm_M} {d : Nat} {h : xm_H} {l0 : Int32} (q0 : l0 < (97 : Int32)) (q1 : ¬ (l0 < (48 : Int32))) (q2 : (57 : Int32) < l0) (q3 : l0 = (59 : Int32)) : xm_E X P d co_X6_kindOf 0 [some (.int l0)] [] h (some (.int (3 : Int32))) h := by
  refine xm_E_s r_X6_kindOf_0 rfl rfl ?_
  refine xm_E_s r_X6_kindOf_1 rfl rfl ?_
  refine xm_E_s r_X6_kindOf_2 rfl rfl ?_
  refine xm_E_t q0 ?_
  refine xm_E_s r_X6_kindOf_8 rfl rfl ?_
  refine xm_E_s r_X6_kindOf_9 rfl rfl ?_
  refine xm_E_s r_X6_kindOf_10 rfl rfl ?_
  refine xm_E_f q1 ?_
  refine xm_E_s r_X6_kindOf_11 rfl rfl ?_
  refine xm_E_s r_X6_kindOf_12 rfl rfl ?_
  refine xm_E_s r_X6_kindOf_13 rfl rfl ?_
  refine xm_E_t q2 ?_
  refine xm_E_s r_X6_kindOf_16 rfl rfl ?_
  refine xm_E_s r_X6_kindOf_17 rfl rfl ?_
  refine xm_E_s r_X6_kindOf_18 rfl rfl ?_
  refine xm_E_t q3 ?_
  refine xm_E_s r_X6_kindOf_19 rfl rfl ?_
  refine xm_E_s r_X6_kindOf_20 rfl rfl ?_
  exact xm_E_iret r_X6_kindOf_22 rfl rfl
theorem p_X6_kindOf_0_3 {X : xm_X} {P : List xm_M} {d : Nat} {h : xm_H} {l0 : Int32} (q0 : l0 < (97 : Int32)) (q1 : ¬ (l0 < (48 : Int32))) (q2 : (57 : Int32) < l0) (q3 : ¬ (l0 = (59 : Int32))) : xm_E X P d co_X6_kindOf 0 [some (.int l0)] [] h (some (.int (4 : Int32))) h := by
  refine xm_E_s r_X6_kindOf_0 rfl rfl ?_
  refine xm_E_s r_X6_kindOf_1 rfl rfl ?_
  refine xm_E_s r_X6_kindOf_2 rfl rfl ?_
  refine xm_E_t q0 ?_
  refine xm_E_s r_X6_kindOf_8 rfl rfl ?_
  refine xm_E_s r_X6_kindOf_9 rfl rfl ?_
  refine xm_E_s r_X6_kindOf_10 rfl rfl ?_
  refine xm_E_f q1 ?_
  refine xm_E_s r_X6_kindOf_11 rfl rfl ?_
  refine xm_E_s r_X6_kindOf_12 rfl rfl ?_
  refine xm_E_s r_X6_kindOf_13 rfl rfl ?_
  refine xm_E_t q2 ?_
  refine xm_E_s r_X6_kindOf_16 rfl rfl ?_
  refine xm_E_s r_X6_kindOf_17 rfl rfl ?_
  refine xm_E_s r_X6_kindOf_18 rfl rfl ?_
  refine xm_E_f q3 ?_
  refine xm_E_s r_X6_kindOf_21 rfl rfl ?_
  exact xm_E_iret r_X6_kindOf_22 rfl rfl
theorem p_X6_kindOf_0_4 {X : xm_X} {P : List xm_M} {d : Nat} {h : xm_H} {l0 : Int32} (q0 : l0 < (97 : Int32)) (q1 : ¬ (l0 < (48 : Int32))) (q2 : ¬ ((57 : Int32) < l0)) : xm_E X P d co_X6_kindOf 0 [some (.int l0)] [] h (some (.int (2 : Int32))) h := by
  refine xm_E_s r_X6_kindOf_0 rfl rfl ?_
  refine xm_E_s r_X6_kindOf_1 rfl rfl ?_
  refine xm_E_s r_X6_kindOf_2 rfl rfl ?_
  refine xm_E_t q0 ?_
  refine xm_E_s r_X6_kindOf_8 rfl rfl ?_
  refine xm_E_s r_X6_kindOf_9 rfl rfl ?_
  refine xm_E_s r_X6_kindOf_10 rfl rfl ?_
  refine xm_E_f q1 ?_
  refine xm_E_s r_X6_kindOf_11 rfl rfl ?_
  refine xm_E_s r_X6_kindOf_12 rfl rfl ?_
  refine xm_E_s r_X6_kindOf_13 rfl rfl ?_
  refine xm_E_f q2 ?_
  refine xm_E_s r_X6_kindOf_14 rfl rfl ?_
  exact xm_E_iret r_X6_kindOf_15 rfl rfl
theorem p_X6_kindOf_0_5 {X : xm_X} {P : List xm_M} {d : Nat} {h : xm_H} {l0 : Int32} (q0 : ¬ (l0 < (97 : Int32))) (q1 : (122 : Int32) < l0) (q2 : l0 < (48 : Int32)) (q3 : l0 = (59 : Int32)) : xm_E X P d co_X6_kindOf 0 [some (.int l0)] [] h (some (.int (3 : Int32))) h := by
  refine xm_E_s r_X6_kindOf_0 rfl rfl ?_
  refine xm_E_s r_X6_kindOf_1 rfl rfl ?_
  refine xm_E_s r_X6_kindOf_2 rfl rfl ?_
  refine xm_E_f q0 ?_
  refine xm_E_s r_X6_kindOf_3 rfl rfl ?_
  refine xm_E_s r_X6_kindOf_4 rfl rfl ?_
  refine xm_E_s r_X6_kindOf_5 rfl rfl ?_
  refine xm_E_t q1 ?_
  refine xm_E_s r_X6_kindOf_8 rfl rfl ?_
  refine xm_E_s r_X6_kindOf_9 rfl rfl ?_
  refine xm_E_s r_X6_kindOf_10 rfl rfl ?_
  refine xm_E_t q2 ?_
  refine xm_E_s r_X6_kindOf_16 rfl rfl ?_
  refine xm_E_s r_X6_kindOf_17 rfl rfl ?_
  refine xm_E_s r_X6_kindOf_18 rfl rfl ?_
  refine xm_E_t q3 ?_
  refine xm_E_s r_X6_kindOf_19 rfl rfl ?_
  refine xm_E_s r_X6_kindOf_20 rfl rfl ?_
  exact xm_E_iret r_X6_kindOf_22 rfl rfl
theorem p_X6_kindOf_0_6 {X : xm_X} {P : List xm_M} {d : Nat} {h : xm_H} {l0 : Int32} (q0 : ¬ (l0 < (97 : Int32))) (q1 : (122 : Int32) < l0) (q2 : l0 < (48 : Int32)) (q3 : ¬ (l0 = (59 : Int32))) : xm_E X P d co_X6_kindOf 0 [some (.int l0)] [] h (some (.int (4 : Int32))) h := by
  refine xm_E_s r_X6_kindOf_0 rfl rfl ?_
  refine xm_E_s r_X6_kindOf_1 rfl rfl ?_
  refine xm_E_s r_X6_kindOf_2 rfl rfl ?_
  refine xm_E_f q0 ?_
  refine xm_E_s r_X6_kindOf_3 rfl rfl ?_
  refine xm_E_s r_X6_kindOf_4 rfl rfl ?_
  refine xm_E_s r_X6_kindOf_5 rfl rfl ?_
  refine xm_E_t q1 ?_
  refine xm_E_s r_X6_kindOf_8 rfl rfl ?_
  refine xm_E_s r_X6_kindOf_9 rfl rfl ?_
  refine xm_E_s r_X6_kindOf_10 rfl rfl ?_
  refine xm_E_t q2 ?_
  refine xm_E_s r_X6_kindOf_16 rfl rfl ?_
  refine xm_E_s r_X6_kindOf_17 rfl rfl ?_
  refine xm_E_s r_X6_kindOf_18 rfl rfl ?_
  refine xm_E_f q3 ?_
  refine xm_E_s r_X6_kindOf_21 rfl rfl ?_
  exact xm_E_iret r_X6_kindOf_22 rfl rfl
theorem p_X6_kindOf_0_7 {X : xm_X} {P : List xm_M} {d : Nat} {h : xm_H} {l0 : Int32} (q0 : ¬ (l0 < (97 : Int32))) (q1 : (122 : Int32) < l0) (q2 : ¬ (l0 < (48 : Int32))) (q3 : (57 : Int32) < l0) (q4 : l0 = (59 : Int32)) : xm_E X P d co_X6_kindOf 0 [some (.int l0)] [] h (some (.int (3 : Int32))) h := by
  refine xm_E_s r_X6_kindOf_0 rfl rfl ?_
  refine xm_E_s r_X6_kindOf_1 rfl rfl ?_
  refine xm_E_s r_X6_kindOf_2 rfl rfl ?_
  refine xm_E_f q0 ?_
  refine xm_E_s r_X6_kindOf_3 rfl rfl ?_
  refine xm_E_s r_X6_kindOf_4 rfl rfl ?_
  refine xm_E_s r_X6_kindOf_5 rfl rfl ?_
  refine xm_E_t q1 ?_
  refine xm_E_s r_X6_kindOf_8 rfl rfl ?_
  refine xm_E_s r_X6_kindOf_9 rfl rfl ?_
  refine xm_E_s r_X6_kindOf_10 rfl rfl ?_
  refine xm_E_f q2 ?_
  refine xm_E_s r_X6_kindOf_11 rfl rfl ?_
  refine xm_E_s r_X6_kindOf_12 rfl rfl ?_
  refine xm_E_s r_X6_kindOf_13 rfl rfl ?_
  refine xm_E_t q3 ?_
  refine xm_E_s r_X6_kindOf_16 rfl rfl ?_
  refine xm_E_s r_X6_kindOf_17 rfl rfl ?_
  refine xm_E_s r_X6_kindOf_18 rfl rfl ?_
  refine xm_E_t q4 ?_
  refine xm_E_s r_X6_kindOf_19 rfl rfl ?_
  refine xm_E_s r_X6_kindOf_20 rfl rfl ?_
  exact xm_E_iret r_X6_kindOf_22 rfl rfl
theorem p_X6_kindOf_0_8 {X : xm_X} {P : List xm_M} {d : Nat} {h : xm_H} {l0 : Int32} (q0 : ¬ (l0 < (97 : Int32))) (q1 : (122 : Int32) < l0) (q2 : ¬ (l0 < (48 : Int32))) (q3 : (57 : Int32) < l0) (q4 : ¬ (l0 = (59 : Int32))) : xm_E X P d co_X6_kindOf 0 [some (.int l0)] [] h (some (.int (4 : Int32))) h := by
  refine xm_E_s r_X6_kindOf_0 rfl rfl ?_
  refine xm_E_s r_X6_kindOf_1 rfl rfl ?_
  refine xm_E_s r_X6_kindOf_2 rfl rfl ?_
  refine xm_E_f q0 ?_
  refine xm_E_s r_X6_kindOf_3 rfl rfl ?_
  refine xm_E_s r_X6_kindOf_4 rfl rfl ?_
  refine xm_E_s r_X6_kindOf_5 rfl rfl ?_
  refine xm_E_t q1 ?_
  refine xm_E_s r_X6_kindOf_8 rfl rfl ?_
  refine xm_E_s r_X6_kindOf_9 rfl rfl ?_
  refine xm_E_s r_X6_kindOf_10 rfl rfl ?_
  refine xm_E_f q2 ?_
  refine xm_E_s r_X6_kindOf_11 rfl rfl ?_
  refine xm_E_s r_X6_kindOf_12 rfl rfl ?_
  refine xm_E_s r_X6_kindOf_13 rfl rfl ?_
  refine xm_E_t q3 ?_
  refine xm_E_s r_X6_kindOf_16 rfl rfl ?_
  refine xm_E_s r_X6_kindOf_17 rfl rfl ?_
  refine xm_E_s r_X6_kindOf_18 rfl rfl ?_
  refine xm_E_f q4 ?_
  refine xm_E_s r_X6_kindOf_21 rfl rfl ?_
  exact xm_E_iret r_X6_kindOf_22 rfl rfl
theorem p_X6_kindOf_0_9 {X : xm_X} {P : List xm_M} {d : Nat} {h : xm_H} {l0 : Int32} (q0 : ¬ (l0 < (97 : Int32))) (q1 : (122 : Int32) < l0) (q2 : ¬ (l0 < (48 : Int32))) (q3 : ¬ ((57 : Int32) < l0)) : xm_E X P d co_X6_kindOf 0 [some (.int l0)] [] h (some (.int (2 : Int32))) h := by
  refine xm_E_s r_X6_kindOf_0 rfl rfl ?_
  refine xm_E_s r_X6_kindOf_1 rfl rfl ?_
  refine xm_E_s r_X6_kindOf_2 rfl rfl ?_
  refine xm_E_f q0 ?_
  refine xm_E_s r_X6_kindOf_3 rfl rfl ?_
  refine xm_E_s r_X6_kindOf_4 rfl rfl ?_
  refine xm_E_s r_X6_kindOf_5 rfl rfl ?_
  refine xm_E_t q1 ?_
  refine xm_E_s r_X6_kindOf_8 rfl rfl ?_
  refine xm_E_s r_X6_kindOf_9 rfl rfl ?_
  refine xm_E_s r_X6_kindOf_10 rfl rfl ?_
  refine xm_E_f q2 ?_
  refine xm_E_s r_X6_kindOf_11 rfl rfl ?_
  refine xm_E_s r_X6_kindOf_12 rfl rfl ?_
  refine xm_E_s r_X6_kindOf_13 rfl rfl ?_
  refine xm_E_f q3 ?_
  refine xm_E_s r_X6_kindOf_14 rfl rfl ?_
  exact xm_E_iret r_X6_kindOf_15 rfl rfl
theorem p_X6_kindOf_0_10 {X : xm_X} {P : List xm_M} {d : Nat} {h : xm_H} {l0 : Int32} (q0 : ¬ (l0 < (97 : Int32))) (q1 : ¬ ((122 : Int32) < l0)) : xm_E X P d co_X6_kindOf 0 [some (.int l0)] [] h (some (.int (1 : Int32))) h := by
  refine xm_E_s r_X6_kindOf_0 rfl rfl ?_
  refine xm_E_s r_X6_kindOf_1 rfl rfl ?_
  refine xm_E_s r_X6_kindOf_2 rfl rfl ?_
  refine xm_E_f q0 ?_
  refine xm_E_s r_X6_kindOf_3 rfl rfl ?_
  refine xm_E_s r_X6_kindOf_4 rfl rfl ?_
  refine xm_E_s r_X6_kindOf_5 rfl rfl ?_
  refine xm_E_f q1 ?_
  refine xm_E_s r_X6_kindOf_6 rfl rfl ?_
  exact xm_E_iret r_X6_kindOf_7 rfl rfl
theorem r_X6_goesOn_0 : co_X6_goesOn[0]? = some ((0, .aload_n 0, 0, 0, 0, 0, 0, 0, []) : xm_I) := rfl
theorem r_X6_goesOn_1 : co_X6_goesOn[1]? = some ((1, .getfield 22, 147, 5, 2, 0, 0, 0, []) : xm_I) := rfl
theorem r_X6_goesOn_2 : co_X6_goesOn[2]? = some ((4, .ifCond .ne 14, 0, 0, 8, 0, 0, 0, []) : xm_I) := rfl
theorem r_X6_goesOn_3 : co_X6_goesOn[3]? = some ((7, .aload_n 0, 0, 0, 0, 0, 0, 0, []) : xm_I) := rfl
theorem r_X6_goesOn_4 : co_X6_goesOn[4]? = some ((8, .getfield 31, 153, 5, 6, 0, 0, 0, []) : xm_I) := rfl
theorem r_X6_goesOn_5 : co_X6_goesOn[5]? = some ((11, .ifCond .eq 7, 0, 0, 8, 0, 0, 0, []) : xm_I) := rfl
theorem r_X6_goesOn_6 : co_X6_goesOn[6]? = some ((14, .iconst 1, 0, 0, 0, 0, 1, 0, []) : xm_I) := rfl
theorem r_X6_goesOn_7 : co_X6_goesOn[7]? = some ((15, .goto 4, 0, 0, 9, 0, 0, 0, []) : xm_I) := rfl
theorem r_X6_goesOn_8 : co_X6_goesOn[8]? = some ((18, .iconst 0, 0, 0, 0, 0, 0, 0, []) : xm_I) := rfl
theorem r_X6_goesOn_9 : co_X6_goesOn[9]? = some ((19, .ireturn, 0, 0, 0, 3, 0, 0, []) : xm_I) := rfl
theorem p_X6_goesOn_0_0 {X : xm_X} {P : List xm_M} {d : Nat} {h : xm_H} {l0 : Nat} (q0 : X.1[l0]? = some (.inr 5)) (q1 : h.1 l0 2 = (0 : Int32)) (q2 : h.1 l0 6 = (0 : Int32)) : xm_E X P d co_X6_goesOn 0 [some (.ref l0)] [] h (some (.int (0 : Int32))) h := by
  refine xm_E_s r_X6_goesOn_0 rfl rfl ?_
  refine xm_E_s r_X6_goesOn_1 rfl (xm_T_gi rfl q0 rfl (Or.inl rfl)) ?_
  refine xm_E_s r_X6_goesOn_2 rfl rfl ?_
  refine xm_E_t q1 ?_
  refine xm_E_s r_X6_goesOn_3 rfl rfl ?_
  refine xm_E_s r_X6_goesOn_4 rfl (xm_T_gi rfl q0 rfl (Or.inl rfl)) ?_
  refine xm_E_s r_X6_goesOn_5 rfl rfl ?_
  refine xm_E_t q2 ?_
  refine xm_E_s r_X6_goesOn_8 rfl rfl ?_
  exact xm_E_iret r_X6_goesOn_9 rfl rfl
theorem p_X6_goesOn_0_1 {X : xm_X} {P : List xm_M} {d : Nat} {h : xm_H} {l0 : Nat} (q0 : X.1[l0]? = some (.inr 5)) (q1 : h.1 l0 2 = (0 : Int32)) (q2 : ¬ (h.1 l0 6 = (0 : Int32))) : xm_E X P d co_X6_goesOn 0 [some (.ref l0)] [] h (some (.int (1 : Int32))) h := by
  refine xm_E_s r_X6_goesOn_0 rfl rfl ?_
  refine xm_E_s r_X6_goesOn_1 rfl (xm_T_gi rfl q0 rfl (Or.inl rfl)) ?_
  refine xm_E_s r_X6_goesOn_2 rfl rfl ?_
  refine xm_E_t q1 ?_
  refine xm_E_s r_X6_goesOn_3 rfl rfl ?_
  refine xm_E_s r_X6_goesOn_4 rfl (xm_T_gi rfl q0 rfl (Or.inl rfl)) ?_
  refine xm_E_s r_X6_goesOn_5 rfl rfl ?_
  refine xm_E_f q2 ?_
  refine xm_E_s r_X6_goesOn_6 rfl rfl ?_
  refine xm_E_s r_X6_goesOn_7 rfl rfl ?_
  exact xm_E_iret r_X6_goesOn_9 rfl rfl
theorem p_X6_goesOn_0_2 {X : xm_X} {P : List xm_M} {d : Nat} {h : xm_H} {l0 : Nat} (q0 : X.1[l0]? = some (.inr 5)) (q1 : ¬ (h.1 l0 2 = (0 : Int32))) : xm_E X P d co_X6_goesOn 0 [some (.ref l0)] [] h (some (.int (0 : Int32))) h := by
  refine xm_E_s r_X6_goesOn_0 rfl rfl ?_
  refine xm_E_s r_X6_goesOn_1 rfl (xm_T_gi rfl q0 rfl (Or.inl rfl)) ?_
  refine xm_E_s r_X6_goesOn_2 rfl rfl ?_
  refine xm_E_f q1 ?_
  refine xm_E_s r_X6_goesOn_8 rfl rfl ?_
  exact xm_E_iret r_X6_goesOn_9 rfl rfl
theorem r_X6_readSheet_0 : co_X6_readSheet[0]? = some ((0, .aload_n 0, 0, 0, 0, 0, 0, 0, []) : xm_I) := rfl
theorem r_X6_readSheet_1 : co_X6_readSheet[1]? = some ((1, .ldc 46, 0, 0, 1000, 1, 0, 0, []) : xm_I) := rfl
theorem r_X6_readSheet_2 : co_X6_readSheet[2]? = some ((3, .invokevirtual 48, 559, 13, 2, 5, 0, 0, []) : xm_I) := rfl
theorem r_X6_readSheet_3 : co_X6_readSheet[3]? = some ((6, .aload_n 0, 0, 0, 0, 0, 0, 0, []) : xm_I) := rfl
theorem r_X6_readSheet_4 : co_X6_readSheet[4]? = some ((7, .ldc 52, 1, 0, 1002, 1, 0, 0, []) : xm_I) := rfl
theorem r_X6_readSheet_5 : co_X6_readSheet[5]? = some ((9, .invokevirtual 48, 559, 13, 2, 5, 0, 0, []) : xm_I) := rfl
theorem r_X6_readSheet_6 : co_X6_readSheet[6]? = some ((12, .aload_n 1, 0, 0, 0, 0, 0, 0, []) : xm_I) := rfl
theorem r_X6_readSheet_7 : co_X6_readSheet[7]? = some ((13, .aload_n 0, 0, 0, 0, 0, 0, 0, []) : xm_I) := rfl
theorem r_X6_readSheet_8 : co_X6_readSheet[8]? = some ((14, .iconst 1, 0, 0, 0, 0, 1, 0, []) : xm_I) := rfl
theorem r_X6_readSheet_9 : co_X6_readSheet[9]? = some ((15, .bipush 48, 0, 0, 0, 0, 48, 0, []) : xm_I) := rfl
theorem r_X6_readSheet_10 : co_X6_readSheet[10]? = some ((17, .invokevirtual 54, 624, 22, 3, 5, 0, 0, []) : xm_I) := rfl
theorem r_X6_readSheet_11 : co_X6_readSheet[11]? = some ((20, .putfield 58, 211, 0, 1, 0, 0, 0, []) : xm_I) := rfl
theorem r_X6_readSheet_12 : co_X6_readSheet[12]? = some ((23, .aload_n 0, 0, 0, 0, 0, 0, 0, []) : xm_I) := rfl
theorem r_X6_readSheet_13 : co_X6_readSheet[13]? = some ((24, .ldc 61, 2, 0, 1004, 1, 0, 0, []) : xm_I) := rfl
theorem r_X6_readSheet_14 : co_X6_readSheet[14]? = some ((26, .invokevirtual 48, 559, 13, 2, 5, 0, 0, []) : xm_I) := rfl
theorem r_X6_readSheet_15 : co_X6_readSheet[15]? = some ((29, .aload_n 1, 0, 0, 0, 0, 0, 0, []) : xm_I) := rfl
theorem r_X6_readSheet_16 : co_X6_readSheet[16]? = some ((30, .aload_n 0, 0, 0, 0, 0, 0, 0, []) : xm_I) := rfl
theorem r_X6_readSheet_17 : co_X6_readSheet[17]? = some ((31, .iconst 1, 0, 0, 0, 0, 1, 0, []) : xm_I) := rfl
theorem r_X6_readSheet_18 : co_X6_readSheet[18]? = some ((32, .bipush 48, 0, 0, 0, 0, 48, 0, []) : xm_I) := rfl
theorem r_X6_readSheet_19 : co_X6_readSheet[19]? = some ((34, .invokevirtual 54, 624, 22, 3, 5, 0, 0, []) : xm_I) := rfl
theorem r_X6_readSheet_20 : co_X6_readSheet[20]? = some ((37, .putfield 63, 213, 0, 2, 0, 0, 0, []) : xm_I) := rfl
theorem r_X6_readSheet_21 : co_X6_readSheet[21]? = some ((40, .aload_n 0, 0, 0, 0, 0, 0, 0, []) : xm_I) := rfl
theorem r_X6_readSheet_22 : co_X6_readSheet[22]? = some ((41, .ldc 66, 3, 0, 1006, 1, 0, 0, []) : xm_I) := rfl
theorem r_X6_readSheet_23 : co_X6_readSheet[23]? = some ((43, .invokevirtual 48, 559, 13, 2, 5, 0, 0, []) : xm_I) := rfl
theorem r_X6_readSheet_24 : co_X6_readSheet[24]? = some ((46, .aload_n 1, 0, 0, 0, 0, 0, 0, []) : xm_I) := rfl
theorem r_X6_readSheet_25 : co_X6_readSheet[25]? = some ((47, .aload_n 0, 0, 0, 0, 0, 0, 0, []) : xm_I) := rfl
theorem r_X6_readSheet_26 : co_X6_readSheet[26]? = some ((48, .iconst 1, 0, 0, 0, 0, 1, 0, []) : xm_I) := rfl
theorem r_X6_readSheet_27 : co_X6_readSheet[27]? = some ((49, .bipush 9, 0, 0, 0, 0, 9, 0, []) : xm_I) := rfl
theorem r_X6_readSheet_28 : co_X6_readSheet[28]? = some ((51, .invokevirtual 54, 624, 22, 3, 5, 0, 0, []) : xm_I) := rfl
theorem r_X6_readSheet_29 : co_X6_readSheet[29]? = some ((54, .putfield 68, 215, 0, 3, 0, 0, 0, []) : xm_I) := rfl
theorem r_X6_readSheet_30 : co_X6_readSheet[30]? = some ((57, .aload_n 0, 0, 0, 0, 0, 0, 0, []) : xm_I) := rfl
theorem r_X6_readSheet_31 : co_X6_readSheet[31]? = some ((58, .ldc 70, 4, 0, 1008, 1, 0, 0, []) : xm_I) := rfl
theorem r_X6_readSheet_32 : co_X6_readSheet[32]? = some ((60, .invokevirtual 48, 559, 13, 2, 5, 0, 0, []) : xm_I) := rfl
theorem r_X6_readSheet_33 : co_X6_readSheet[33]? = some ((63, .aload_n 1, 0, 0, 0, 0, 0, 0, []) : xm_I) := rfl
theorem r_X6_readSheet_34 : co_X6_readSheet[34]? = some ((64, .aload_n 0, 0, 0, 0, 0, 0, 0, []) : xm_I) := rfl
theorem r_X6_readSheet_35 : co_X6_readSheet[35]? = some ((65, .iconst 1, 0, 0, 0, 0, 1, 0, []) : xm_I) := rfl
theorem r_X6_readSheet_36 : co_X6_readSheet[36]? = some ((66, .bipush 60, 0, 0, 0, 0, 60, 0, []) : xm_I) := rfl
theorem r_X6_readSheet_37 : co_X6_readSheet[37]? = some ((68, .invokevirtual 54, 624, 22, 3, 5, 0, 0, []) : xm_I) := rfl
theorem r_X6_readSheet_38 : co_X6_readSheet[38]? = some ((71, .putfield 72, 220, 0, 4, 0, 0, 0, []) : xm_I) := rfl
theorem r_X6_readSheet_39 : co_X6_readSheet[39]? = some ((74, .aload_n 0, 0, 0, 0, 0, 0, 0, []) : xm_I) := rfl
theorem r_X6_readSheet_40 : co_X6_readSheet[40]? = some ((75, .ldc 75, 5, 0, 1010, 1, 0, 0, []) : xm_I) := rfl
theorem r_X6_readSheet_41 : co_X6_readSheet[41]? = some ((77, .invokevirtual 48, 559, 13, 2, 5, 0, 0, []) : xm_I) := rfl
theorem r_X6_readSheet_42 : co_X6_readSheet[42]? = some ((80, .aload_n 1, 0, 0, 0, 0, 0, 0, []) : xm_I) := rfl
theorem r_X6_readSheet_43 : co_X6_readSheet[43]? = some ((81, .aload_n 0, 0, 0, 0, 0, 0, 0, []) : xm_I) := rfl
theorem r_X6_readSheet_44 : co_X6_readSheet[44]? = some ((82, .iconst 1, 0, 0, 0, 0, 1, 0, []) : xm_I) := rfl
theorem r_X6_readSheet_45 : co_X6_readSheet[45]? = some ((83, .bipush 60, 0, 0, 0, 0, 60, 0, []) : xm_I) := rfl
theorem r_X6_readSheet_46 : co_X6_readSheet[46]? = some ((85, .invokevirtual 54, 624, 22, 3, 5, 0, 0, []) : xm_I) := rfl
theorem r_X6_readSheet_47 : co_X6_readSheet[47]? = some ((88, .putfield 77, 222, 0, 5, 0, 0, 0, []) : xm_I) := rfl
theorem r_X6_readSheet_48 : co_X6_readSheet[48]? = some ((91, .return_, 0, 0, 0, 0, 0, 0, []) : xm_I) := rfl
theorem p_X6_readSheet_0_0 {X : xm_X} {P : List xm_M} {d : Nat} {h : xm_H} {l0 : Nat} {l1 : Nat} {h0 : xm_H} {h1 : xm_H} {h2 : xm_H} {r2 : Int32} {h3 : xm_H} {h4 : xm_H} {r4 : Int32} {h5 : xm_H} {h6 : xm_H} {r6 : Int32} {h7 : xm_H} {h8 : xm_H} {r8 : Int32} {h9 : xm_H} {h10 : xm_H} {r10 : Int32} (q0 : xm_V X P d 13 [.ref l0, .ref 1000] h none h0) (q1 : X.1[l0]? = some (.inr 5)) (q2 : xm_V X P d 13 [.ref l0, .ref 1002] h0 none h1) (q3 : xm_V X P d 22 [.ref l0, .int (1 : Int32), .int (48 : Int32)] h1 (some (.int r2)) h2) (q4 : X.1[l1]? = some (.inr 0)) (q5 : xm_V X P d 13 [.ref l0, .ref 1004] (xm_si h2 l1 1 r2) none h3) (q6 : xm_V X P d 22 [.ref l0, .int (1 : Int32), .int (48 : Int32)] h3 (some (.int r4)) h4) (q7 : xm_V X P d 13 [.ref l0, .ref 1006] (xm_si h4 l1 2 r4) none h5) (q8 : xm_V X P d 22 [.ref l0, .int (1 : Int32), .int (9 : Int32)] h5 (some (.int r6)) h6) (q9 : xm_V X P d 13 [.ref l0, .ref 1008] (xm_si h6 l1 3 r6) none h7) (q10 : xm_V X P d 22 [.ref l0, .int (1 : Int32), .int (60 : Int32)] h7 (some (.int r8)) h8) (q11 : xm_V X P d 13 [.ref l0, .ref 1010] (xm_si h8 l1 4 r8) none h9) (q12 : xm_V X P d 22 [.ref l0, .int (1 : Int32), .int (60 : Int32)] h9 (some (.int r10)) h10) : xm_E X P d co_X6_readSheet 0 [some (.ref l0), some (.ref l1)] [] h none (xm_si h10 l1 5 r10) := by
  refine xm_E_s r_X6_readSheet_0 rfl rfl ?_
  refine xm_E_s r_X6_readSheet_1 rfl rfl ?_
  refine xm_E_cv [.ref l0, .ref 1000] [] r_X6_readSheet_2 rfl rfl (Nat.le_of_ble_eq_true rfl) (xm_rc q1 (by decide)) rfl q0 ?_
  refine xm_E_s r_X6_readSheet_3 rfl rfl ?_
  refine xm_E_s r_X6_readSheet_4 rfl rfl ?_
  refine xm_E_cv [.ref l0, .ref 1002] [] r_X6_readSheet_5 rfl rfl (Nat.le_of_ble_eq_true rfl) (xm_rc q1 (by decide)) rfl q2 ?_
  refine xm_E_s r_X6_readSheet_6 rfl rfl ?_
  refine xm_E_s r_X6_readSheet_7 rfl rfl ?_
  refine xm_E_s r_X6_readSheet_8 rfl rfl ?_
  refine xm_E_s r_X6_readSheet_9 rfl rfl ?_
  refine xm_E_cv [.ref l0, .int (1 : Int32), .int (48 : Int32)] [.ref l1] r_X6_readSheet_10 rfl rfl (Nat.le_of_ble_eq_true rfl) (xm_rc q1 (by decide)) rfl q3 ?_
  refine xm_E_s r_X6_readSheet_11 rfl (xm_T_pi rfl q4 rfl rfl) ?_
  refine xm_E_s r_X6_readSheet_12 rfl rfl ?_
  refine xm_E_s r_X6_readSheet_13 rfl rfl ?_
  refine xm_E_cv [.ref l0, .ref 1004] [] r_X6_readSheet_14 rfl rfl (Nat.le_of_ble_eq_true rfl) (xm_rc q1 (by decide)) rfl q5 ?_
  refine xm_E_s r_X6_readSheet_15 rfl rfl ?_
  refine xm_E_s r_X6_readSheet_16 rfl rfl ?_
  refine xm_E_s r_X6_readSheet_17 rfl rfl ?_
  refine xm_E_s r_X6_readSheet_18 rfl rfl ?_
  refine xm_E_cv [.ref l0, .int (1 : Int32), .int (48 : Int32)] [.ref l1] r_X6_readSheet_19 rfl rfl (Nat.le_of_ble_eq_true rfl) (xm_rc q1 (by decide)) rfl q6 ?_
  refine xm_E_s r_X6_readSheet_20 rfl (xm_T_pi rfl q4 rfl rfl) ?_
  refine xm_E_s r_X6_readSheet_21 rfl rfl ?_
  refine xm_E_s r_X6_readSheet_22 rfl rfl ?_
  refine xm_E_cv [.ref l0, .ref 1006] [] r_X6_readSheet_23 rfl rfl (Nat.le_of_ble_eq_true rfl) (xm_rc q1 (by decide)) rfl q7 ?_
  refine xm_E_s r_X6_readSheet_24 rfl rfl ?_
  refine xm_E_s r_X6_readSheet_25 rfl rfl ?_
  refine xm_E_s r_X6_readSheet_26 rfl rfl ?_
  refine xm_E_s r_X6_readSheet_27 rfl rfl ?_
  refine xm_E_cv [.ref l0, .int (1 : Int32), .int (9 : Int32)] [.ref l1] r_X6_readSheet_28 rfl rfl (Nat.le_of_ble_eq_true rfl) (xm_rc q1 (by decide)) rfl q8 ?_
  refine xm_E_s r_X6_readSheet_29 rfl (xm_T_pi rfl q4 rfl rfl) ?_
  refine xm_E_s r_X6_readSheet_30 rfl rfl ?_
  refine xm_E_s r_X6_readSheet_31 rfl rfl ?_
  refine xm_E_cv [.ref l0, .ref 1008] [] r_X6_readSheet_32 rfl rfl (Nat.le_of_ble_eq_true rfl) (xm_rc q1 (by decide)) rfl q9 ?_
  refine xm_E_s r_X6_readSheet_33 rfl rfl ?_
  refine xm_E_s r_X6_readSheet_34 rfl rfl ?_
  refine xm_E_s r_X6_readSheet_35 rfl rfl ?_
  refine xm_E_s r_X6_readSheet_36 rfl rfl ?_
  refine xm_E_cv [.ref l0, .int (1 : Int32), .int (60 : Int32)] [.ref l1] r_X6_readSheet_37 rfl rfl (Nat.le_of_ble_eq_true rfl) (xm_rc q1 (by decide)) rfl q10 ?_
  refine xm_E_s r_X6_readSheet_38 rfl (xm_T_pi rfl q4 rfl rfl) ?_
  refine xm_E_s r_X6_readSheet_39 rfl rfl ?_
  refine xm_E_s r_X6_readSheet_40 rfl rfl ?_
  refine xm_E_cv [.ref l0, .ref 1010] [] r_X6_readSheet_41 rfl rfl (Nat.le_of_ble_eq_true rfl) (xm_rc q1 (by decide)) rfl q11 ?_
  refine xm_E_s r_X6_readSheet_42 rfl rfl ?_
  refine xm_E_s r_X6_readSheet_43 rfl rfl ?_
  refine xm_E_s r_X6_readSheet_44 rfl rfl ?_
  refine xm_E_s r_X6_readSheet_45 rfl rfl ?_
  refine xm_E_cv [.ref l0, .int (1 : Int32), .int (60 : Int32)] [.ref l1] r_X6_readSheet_46 rfl rfl (Nat.le_of_ble_eq_true rfl) (xm_rc q1 (by decide)) rfl q12 ?_
  refine xm_E_s r_X6_readSheet_47 rfl (xm_T_pi rfl q4 rfl rfl) ?_
  exact xm_E_ret r_X6_readSheet_48 rfl
theorem r_X6_expect_0 : co_X6_expect[0]? = some ((0, .aload_n 0, 0, 0, 0, 0, 0, 0, []) : xm_I) := rfl
theorem r_X6_expect_1 : co_X6_expect[1]? = some ((1, .aload_n 1, 0, 0, 0, 0, 0, 0, []) : xm_I) := rfl
theorem r_X6_expect_2 : co_X6_expect[2]? = some ((2, .invokevirtual 81, 563, 14, 2, 5, 0, 0, []) : xm_I) := rfl
theorem r_X6_expect_3 : co_X6_expect[3]? = some ((5, .iconst (-1), 0, 0, 0, 0, (-1), 0, []) : xm_I) := rfl
theorem r_X6_expect_4 : co_X6_expect[4]? = some ((6, .if_icmp .ne 12, 0, 0, 10, 0, 0, 0, []) : xm_I) := rfl
theorem r_X6_expect_5 : co_X6_expect[5]? = some ((9, .aload_n 0, 0, 0, 0, 0, 0, 0, []) : xm_I) := rfl
theorem r_X6_expect_6 : co_X6_expect[6]? = some ((10, .iconst 1, 0, 0, 0, 0, 1, 0, []) : xm_I) := rfl
theorem r_X6_expect_7 : co_X6_expect[7]? = some ((11, .aload_n 0, 0, 0, 0, 0, 0, 0, []) : xm_I) := rfl
theorem r_X6_expect_8 : co_X6_expect[8]? = some ((12, .getfield 39, 151, 5, 4, 0, 0, 0, []) : xm_I) := rfl
theorem r_X6_expect_9 : co_X6_expect[9]? = some ((15, .invokevirtual 42, 619, 21, 3, 5, 0, 0, []) : xm_I) := rfl
theorem r_X6_expect_10 : co_X6_expect[10]? = some ((18, .return_, 0, 0, 0, 0, 0, 0, []) : xm_I) := rfl
theorem p_X6_expect_0_0 {X : xm_X} {P : List xm_M} {d : Nat} {h : xm_H} {l0 : Nat} {l1 : Nat} {h0 : xm_H} {r0 : Int32} {h1 : xm_H} (q0 : xm_V X P d 14 [.ref l0, .ref l1] h (some (.int r0)) h0) (q1 : X.1[l0]? = some (.inr 5)) (q2 : r0 = (-1 : Int32)) (q3 : xm_V X P d 21 [.ref l0, .int (1 : Int32), .int (h0.1 l0 4)] h0 none h1) : xm_E X P d co_X6_expect 0 [some (.ref l0), some (.ref l1)] [] h none h1 := by
  refine xm_E_s r_X6_expect_0 rfl rfl ?_
  refine xm_E_s r_X6_expect_1 rfl rfl ?_
  refine xm_E_cv [.ref l0, .ref l1] [] r_X6_expect_2 rfl rfl (Nat.le_of_ble_eq_true rfl) (xm_rc q1 (by decide)) rfl q0 ?_
  refine xm_E_s r_X6_expect_3 rfl rfl ?_
  refine xm_E_s r_X6_expect_4 rfl rfl ?_
  refine xm_E_t q2 ?_
  refine xm_E_s r_X6_expect_5 rfl rfl ?_
  refine xm_E_s r_X6_expect_6 rfl rfl ?_
  refine xm_E_s r_X6_expect_7 rfl rfl ?_
  refine xm_E_s r_X6_expect_8 rfl (xm_T_gi rfl q1 rfl (Or.inl rfl)) ?_
  refine xm_E_cv [.ref l0, .int (1 : Int32), .int (h0.1 l0 4)] [] r_X6_expect_9 rfl rfl (Nat.le_of_ble_eq_true rfl) (xm_rc q1 (by decide)) rfl q3 ?_
  exact xm_E_ret r_X6_expect_10 rfl
theorem p_X6_expect_0_1 {X : xm_X} {P : List xm_M} {d : Nat} {h : xm_H} {l0 : Nat} {l1 : Nat} {h0 : xm_H} {r0 : Int32} (q0 : xm_V X P d 14 [.ref l0, .ref l1] h (some (.int r0)) h0) (q1 : X.1[l0]? = some (.inr 5)) (q2 : ¬ (r0 = (-1 : Int32))) : xm_E X P d co_X6_expect 0 [some (.ref l0), some (.ref l1)] [] h none h0 := by
  refine xm_E_s r_X6_expect_0 rfl rfl ?_
  refine xm_E_s r_X6_expect_1 rfl rfl ?_
  refine xm_E_cv [.ref l0, .ref l1] [] r_X6_expect_2 rfl rfl (Nat.le_of_ble_eq_true rfl) (xm_rc q1 (by decide)) rfl q0 ?_
  refine xm_E_s r_X6_expect_3 rfl rfl ?_
  refine xm_E_s r_X6_expect_4 rfl rfl ?_
  refine xm_E_f q2 ?_
  exact xm_E_ret r_X6_expect_10 rfl
theorem r_X6_take_0 : co_X6_take[0]? = some ((0, .iconst 0, 0, 0, 0, 0, 0, 0, []) : xm_I) := rfl
theorem r_X6_take_1 : co_X6_take[1]? = some ((1, .istore_n 2, 0, 0, 0, 0, 0, 0, []) : xm_I) := rfl
theorem r_X6_take_2 : co_X6_take[2]? = some ((2, .iconst 0, 0, 0, 0, 0, 0, 0, []) : xm_I) := rfl
theorem r_X6_take_3 : co_X6_take[3]? = some ((3, .istore_n 3, 0, 0, 0, 0, 0, 0, []) : xm_I) := rfl
theorem r_X6_take_4 : co_X6_take[4]? = some ((4, .iconst 0, 0, 0, 0, 0, 0, 0, []) : xm_I) := rfl
theorem r_X6_take_5 : co_X6_take[5]? = some ((5, .istore 4, 0, 0, 0, 0, 0, 0, []) : xm_I) := rfl
theorem r_X6_take_6 : co_X6_take[6]? = some ((7, .iload 4, 0, 0, 0, 0, 0, 0, []) : xm_I) := rfl
theorem r_X6_take_7 : co_X6_take[7]? = some ((9, .aload_n 1, 0, 0, 0, 0, 0, 0, []) : xm_I) := rfl
theorem r_X6_take_8 : co_X6_take[8]? = some ((10, .invokevirtual 178, 567, 15, 1, 99, 0, 0, []) : xm_I) := rfl
theorem r_X6_take_9 : co_X6_take[9]? = some ((13, .if_icmp .gt 54, 0, 0, 36, 0, 0, 0, []) : xm_I) := rfl
theorem r_X6_take_10 : co_X6_take[10]? = some ((16, .iload 4, 0, 0, 0, 0, 0, 0, []) : xm_I) := rfl
theorem r_X6_take_11 : co_X6_take[11]? = some ((18, .aload_n 1, 0, 0, 0, 0, 0, 0, []) : xm_I) := rfl
theorem r_X6_take_12 : co_X6_take[12]? = some ((19, .invokevirtual 178, 567, 15, 1, 99, 0, 0, []) : xm_I) := rfl
theorem r_X6_take_13 : co_X6_take[13]? = some ((22, .if_icmp .eq 14, 0, 0, 19, 0, 0, 0, []) : xm_I) := rfl
theorem r_X6_take_14 : co_X6_take[14]? = some ((25, .aload_n 1, 0, 0, 0, 0, 0, 0, []) : xm_I) := rfl
theorem r_X6_take_15 : co_X6_take[15]? = some ((26, .iload 4, 0, 0, 0, 0, 0, 0, []) : xm_I) := rfl
theorem r_X6_take_16 : co_X6_take[16]? = some ((28, .invokevirtual 184, 577, 17, 2, 99, 0, 0, []) : xm_I) := rfl
theorem r_X6_take_17 : co_X6_take[17]? = some ((31, .bipush 32, 0, 0, 0, 0, 32, 0, []) : xm_I) := rfl
theorem r_X6_take_18 : co_X6_take[18]? = some ((33, .if_icmp .ne 28, 0, 0, 34, 0, 0, 0, []) : xm_I) := rfl
theorem r_X6_take_19 : co_X6_take[19]? = some ((36, .aload_n 0, 0, 0, 0, 0, 0, 0, []) : xm_I) := rfl
theorem r_X6_take_20 : co_X6_take[20]? = some ((37, .aload_n 1, 0, 0, 0, 0, 0, 0, []) : xm_I) := rfl
theorem r_X6_take_21 : co_X6_take[21]? = some ((38, .iload_n 3, 0, 0, 0, 0, 0, 0, []) : xm_I) := rfl
theorem r_X6_take_22 : co_X6_take[22]? = some ((39, .iload 4, 0, 0, 0, 0, 0, 0, []) : xm_I) := rfl
theorem r_X6_take_23 : co_X6_take[23]? = some ((41, .invokevirtual 188, 615, 20, 4, 5, 0, 0, []) : xm_I) := rfl
theorem r_X6_take_24 : co_X6_take[24]? = some ((44, .ifCond .eq 9, 0, 0, 29, 0, 0, 0, []) : xm_I) := rfl
theorem r_X6_take_25 : co_X6_take[25]? = some ((47, .aload_n 0, 0, 0, 0, 0, 0, 0, []) : xm_I) := rfl
theorem r_X6_take_26 : co_X6_take[26]? = some ((48, .invokevirtual 28, 540, 8, 1, 5, 0, 0, []) : xm_I) := rfl
theorem r_X6_take_27 : co_X6_take[27]? = some ((51, .iload_n 2, 0, 0, 0, 0, 0, 0, []) : xm_I) := rfl
theorem r_X6_take_28 : co_X6_take[28]? = some ((52, .ireturn, 0, 0, 0, 0, 0, 0, []) : xm_I) := rfl
theorem r_X6_take_29 : co_X6_take[29]? = some ((53, .iinc 2 1, 0, 0, 0, 0, 1, 0, []) : xm_I) := rfl
theorem r_X6_take_30 : co_X6_take[30]? = some ((56, .iload 4, 0, 0, 0, 0, 0, 0, []) : xm_I) := rfl
theorem r_X6_take_31 : co_X6_take[31]? = some ((58, .iconst 1, 0, 0, 0, 0, 1, 0, []) : xm_I) := rfl
theorem r_X6_take_32 : co_X6_take[32]? = some ((59, .iadd, 0, 0, 0, 0, 0, 0, []) : xm_I) := rfl
theorem r_X6_take_33 : co_X6_take[33]? = some ((60, .istore_n 3, 0, 0, 0, 0, 0, 0, []) : xm_I) := rfl
theorem r_X6_take_34 : co_X6_take[34]? = some ((61, .iinc 4 1, 0, 0, 0, 0, 1, 0, []) : xm_I) := rfl
theorem r_X6_take_35 : co_X6_take[35]? = some ((64, .goto (-57), 0, 0, 6, 0, 0, 0, []) : xm_I) := rfl
theorem r_X6_take_36 : co_X6_take[36]? = some ((67, .iconst (-1), 0, 0, 0, 0, (-1), 0, []) : xm_I) := rfl
theorem r_X6_take_37 : co_X6_take[37]? = some ((68, .ireturn, 0, 0, 0, 0, 0, 0, []) : xm_I) := rfl
theorem p_X6_take_0_0 {X : xm_X} {P : List xm_M} {d : Nat} {h : xm_H} {l0 : Nat} {l1 : Nat} {ro : Option Value} {ho : xm_H}  (K : xm_E X P d co_X6_take 6 [some (.ref l0), some (.ref l1), some (.int (0 : Int32)), some (.int (0 : Int32)), some (.int (0 : Int32))] [] h ro ho) : xm_E X P d co_X6_take 0 [some (.ref l0), some (.ref l1), none, none, none] [] h ro ho := by
  refine xm_E_s r_X6_take_0 rfl rfl ?_
  refine xm_E_s (ls1 := [some (.ref l0), some (.ref l1), some (.int (0 : Int32)), none, none]) r_X6_take_1 rfl rfl ?_
  refine xm_E_s r_X6_take_2 rfl rfl ?_
  refine xm_E_s (ls1 := [some (.ref l0), some (.ref l1), some (.int (0 : Int32)), some (.int (0 : Int32)), none]) r_X6_take_3 rfl rfl ?_
  refine xm_E_s r_X6_take_4 rfl rfl ?_
  refine xm_E_s (ls1 := [some (.ref l0), some (.ref l1), some (.int (0 : Int32)), some (.int (0 : Int32)), some (.int (0 : Int32))]) r_X6_take_5 rfl rfl ?_
  exact K
theorem p_X6_take_6_0 {X : xm_X} {P : List xm_M} {d : Nat} {h : xm_H} {l0 : Nat} {l1 : Nat} {l2 : Int32} {l3 : Int32} {l4 : Int32} {h0 : xm_H} {r0 : Int32} (q0 : xm_V X P d 15 [.ref l1] h (some (.int r0)) h0) (q1 : X.2.2.1 l1 0 = some (.int 0)) (q2 : r0 < l4) : xm_E X P d co_X6_take 6 [some (.ref l0), some (.ref l1), some (.int l2), some (.int l3), some (.int l4)] [] h (some (.int (-1 : Int32))) h0 := by
  refine xm_E_s r_X6_take_6 rfl rfl ?_
  refine xm_E_s r_X6_take_7 rfl rfl ?_
  refine xm_E_cv [.ref l1] [.int l4] r_X6_take_8 rfl rfl (Nat.le_of_ble_eq_true rfl) (xm_rs q1) rfl q0 ?_
  refine xm_E_s r_X6_take_9 rfl rfl ?_
  refine xm_E_t q2 ?_
  refine xm_E_s r_X6_take_36 rfl rfl ?_
  exact xm_E_iret r_X6_take_37 rfl rfl
theorem p_X6_take_6_1 {X : xm_X} {P : List xm_M} {d : Nat} {h : xm_H} {l0 : Nat} {l1 : Nat} {l2 : Int32} {l3 : Int32} {l4 : Int32} {h0 : xm_H} {r0 : Int32} {h1 : xm_H} {r1 : Int32} {h2 : xm_H} {r2 : Int32} {ro : Option Value} {ho : xm_H} (q0 : xm_V X P d 15 [.ref l1] h (some (.int r0)) h0) (q1 : X.2.2.1 l1 0 = some (.int 0)) (q2 : ¬ (r0 < l4)) (q3 : xm_V X P d 15 [.ref l1] h0 (some (.int r1)) h1) (q4 : l4 = r1) (q5 : xm_V X P d 20 [.ref l0, .ref l1, .int l3, .int l4] h1 (some (.int r2)) h2) (q6 : X.1[l0]? = some (.inr 5)) (q7 : r2 = (0 : Int32)) (K : xm_E X P d co_X6_take 6 [some (.ref l0), some (.ref l1), some (.int (l2 + (1 : Int32))), some (.int (l4 + (1 : Int32))), some (.int (l4 + (1 : Int32)))] [] h2 ro ho) : xm_E X P d co_X6_take 6 [some (.ref l0), some (.ref l1), some (.int l2), some (.int l3), some (.int l4)] [] h ro ho := by
  refine xm_E_s r_X6_take_6 rfl rfl ?_
  refine xm_E_s r_X6_take_7 rfl rfl ?_
  refine xm_E_cv [.ref l1] [.int l4] r_X6_take_8 rfl rfl (Nat.le_of_ble_eq_true rfl) (xm_rs q1) rfl q0 ?_
  refine xm_E_s r_X6_take_9 rfl rfl ?_
  refine xm_E_f q2 ?_
  refine xm_E_s r_X6_take_10 rfl rfl ?_
  refine xm_E_s r_X6_take_11 rfl rfl ?_
  refine xm_E_cv [.ref l1] [.int l4] r_X6_take_12 rfl rfl (Nat.le_of_ble_eq_true rfl) (xm_rs q1) rfl q3 ?_
  refine xm_E_s r_X6_take_13 rfl rfl ?_
  refine xm_E_t q4 ?_
  refine xm_E_s r_X6_take_19 rfl rfl ?_
  refine xm_E_s r_X6_take_20 rfl rfl ?_
  refine xm_E_s r_X6_take_21 rfl rfl ?_
  refine xm_E_s r_X6_take_22 rfl rfl ?_
  refine xm_E_cv [.ref l0, .ref l1, .int l3, .int l4] [] r_X6_take_23 rfl rfl (Nat.le_of_ble_eq_true rfl) (xm_rc q6 (by decide)) rfl q5 ?_
  refine xm_E_s r_X6_take_24 rfl rfl ?_
  refine xm_E_t q7 ?_
  refine xm_E_s (ls1 := [some (.ref l0), some (.ref l1), some (.int (l2 + (1 : Int32))), some (.int l3), some (.int l4)]) r_X6_take_29 rfl rfl ?_
  refine xm_E_s r_X6_take_30 rfl rfl ?_
  refine xm_E_s r_X6_take_31 rfl rfl ?_
  refine xm_E_s r_X6_take_32 rfl rfl ?_
  refine xm_E_s (ls1 := [some (.ref l0), some (.ref l1), some (.int (l2 + (1 : Int32))), some (.int (l4 + (1 : Int32))), some (.int l4)]) r_X6_take_33 rfl rfl ?_
  refine xm_E_s (ls1 := [some (.ref l0), some (.ref l1), some (.int (l2 + (1 : Int32))), some (.int (l4 + (1 : Int32))), some (.int (l4 + (1 : Int32)))]) r_X6_take_34 rfl rfl ?_
  refine xm_E_s r_X6_take_35 rfl rfl ?_
  exact K
theorem p_X6_take_6_2 {X : xm_X} {P : List xm_M} {d : Nat} {h : xm_H} {l0 : Nat} {l1 : Nat} {l2 : Int32} {l3 : Int32} {l4 : Int32} {h0 : xm_H} {r0 : Int32} {h1 : xm_H} {r1 : Int32} {h2 : xm_H} {r2 : Int32} {h3 : xm_H} (q0 : xm_V X P d 15 [.ref l1] h (some (.int r0)) h0) (q1 : X.2.2.1 l1 0 = some (.int 0)) (q2 : ¬ (r0 < l4)) (q3 : xm_V X P d 15 [.ref l1] h0 (some (.int r1)) h1) (q4 : l4 = r1) (q5 : xm_V X P d 20 [.ref l0, .ref l1, .int l3, .int l4] h1 (some (.int r2)) h2) (q6 : X.1[l0]? = some (.inr 5)) (q7 : ¬ (r2 = (0 : Int32))) (q8 : xm_V X P d 8 [.ref l0] h2 none h3) : xm_E X P d co_X6_take 6 [some (.ref l0), some (.ref l1), some (.int l2), some (.int l3), some (.int l4)] [] h (some (.int l2)) h3 := by
  refine xm_E_s r_X6_take_6 rfl rfl ?_
  refine xm_E_s r_X6_take_7 rfl rfl ?_
  refine xm_E_cv [.ref l1] [.int l4] r_X6_take_8 rfl rfl (Nat.le_of_ble_eq_true rfl) (xm_rs q1) rfl q0 ?_
  refine xm_E_s r_X6_take_9 rfl rfl ?_
  refine xm_E_f q2 ?_
  refine xm_E_s r_X6_take_10 rfl rfl ?_
  refine xm_E_s r_X6_take_11 rfl rfl ?_
  refine xm_E_cv [.ref l1] [.int l4] r_X6_take_12 rfl rfl (Nat.le_of_ble_eq_true rfl) (xm_rs q1) rfl q3 ?_
  refine xm_E_s r_X6_take_13 rfl rfl ?_
  refine xm_E_t q4 ?_
  refine xm_E_s r_X6_take_19 rfl rfl ?_
  refine xm_E_s r_X6_take_20 rfl rfl ?_
  refine xm_E_s r_X6_take_21 rfl rfl ?_
  refine xm_E_s r_X6_take_22 rfl rfl ?_
  refine xm_E_cv [.ref l0, .ref l1, .int l3, .int l4] [] r_X6_take_23 rfl rfl (Nat.le_of_ble_eq_true rfl) (xm_rc q6 (by decide)) rfl q5 ?_
  refine xm_E_s r_X6_take_24 rfl rfl ?_
  refine xm_E_f q7 ?_
  refine xm_E_s r_X6_take_25 rfl rfl ?_
  refine xm_E_cv [.ref l0] [] r_X6_take_26 rfl rfl (Nat.le_of_ble_eq_true rfl) (xm_rc q6 (by decide)) rfl q8 ?_
  refine xm_E_s r_X6_take_27 rfl rfl ?_
  exact xm_E_iret r_X6_take_28 rfl rfl
theorem p_X6_take_6_3 {X : xm_X} {P : List xm_M} {d : Nat} {h : xm_H} {l0 : Nat} {l1 : Nat} {l2 : Int32} {l3 : Int32} {l4 : Int32} {h0 : xm_H} {r0 : Int32} {h1 : xm_H} {r1 : Int32} {h2 : xm_H} {r2 : Int32} {h3 : xm_H} {r3 : Int32} {ro : Option Value} {ho : xm_H} (q0 : xm_V X P d 15 [.ref l1] h (some (.int r0)) h0) (q1 : X.2.2.1 l1 0 = some (.int 0)) (q2 : ¬ (r0 < l4)) (q3 : xm_V X P d 15 [.ref l1] h0 (some (.int r1)) h1) (q4 : ¬ (l4 = r1)) (q5 : xm_V X P d 17 [.ref l1, .int l4] h1 (some (.int r2)) h2) (q6 : r2 = (32 : Int32)) (q7 : xm_V X P d 20 [.ref l0, .ref l1, .int l3, .int l4] h2 (some (.int r3)) h3) (q8 : X.1[l0]? = some (.inr 5)) (q9 : r3 = (0 : Int32)) (K : xm_E X P d co_X6_take 6 [some (.ref l0), some (.ref l1), some (.int (l2 + (1 : Int32))), some (.int (l4 + (1 : Int32))), some (.int (l4 + (1 : Int32)))] [] h3 ro ho) : xm_E X P d co_X6_take 6 [some (.ref l0), some (.ref l1), some (.int l2), some (.int l3), some (.int l4)] [] h ro ho := by
  refine xm_E_s r_X6_take_6 rfl rfl ?_
  refine xm_E_s r_X6_take_7 rfl rfl ?_
  refine xm_E_cv [.ref l1] [.int l4] r_X6_take_8 rfl rfl (Nat.le_of_ble_eq_true rfl) (xm_rs q1) rfl q0 ?_
  refine xm_E_s r_X6_take_9 rfl rfl ?_
  refine xm_E_f q2 ?_
  refine xm_E_s r_X6_take_10 rfl rfl ?_
  refine xm_E_s r_X6_take_11 rfl rfl ?_
  refine xm_E_cv [.ref l1] [.int l4] r_X6_take_12 rfl rfl (Nat.le_of_ble_eq_true rfl) (xm_rs q1) rfl q3 ?_
  refine xm_E_s r_X6_take_13 rfl rfl ?_
  refine xm_E_f q4 ?_
  refine xm_E_s r_X6_take_14 rfl rfl ?_
  refine xm_E_s r_X6_take_15 rfl rfl ?_
  refine xm_E_cv [.ref l1, .int l4] [] r_X6_take_16 rfl rfl (Nat.le_of_ble_eq_true rfl) (xm_rs q1) rfl q5 ?_
  refine xm_E_s r_X6_take_17 rfl rfl ?_
  refine xm_E_s r_X6_take_18 rfl rfl ?_
  refine xm_E_t q6 ?_
  refine xm_E_s r_X6_take_19 rfl rfl ?_
  refine xm_E_s r_X6_take_20 rfl rfl ?_
  refine xm_E_s r_X6_take_21 rfl rfl ?_
  refine xm_E_s r_X6_take_22 rfl rfl ?_
  refine xm_E_cv [.ref l0, .ref l1, .int l3, .int l4] [] r_X6_take_23 rfl rfl (Nat.le_of_ble_eq_true rfl) (xm_rc q8 (by decide)) rfl q7 ?_
  refine xm_E_s r_X6_take_24 rfl rfl ?_
  refine xm_E_t q9 ?_
  refine xm_E_s (ls1 := [some (.ref l0), some (.ref l1), some (.int (l2 + (1 : Int32))), some (.int l3), some (.int l4)]) r_X6_take_29 rfl rfl ?_
  refine xm_E_s r_X6_take_30 rfl rfl ?_
  refine xm_E_s r_X6_take_31 rfl rfl ?_
  refine xm_E_s r_X6_take_32 rfl rfl ?_
  refine xm_E_s (ls1 := [some (.ref l0), some (.ref l1), some (.int (l2 + (1 : Int32))), some (.int (l4 + (1 : Int32))), some (.int l4)]) r_X6_take_33 rfl rfl ?_
  refine xm_E_s (ls1 := [some (.ref l0), some (.ref l1), some (.int (l2 + (1 : Int32))), some (.int (l4 + (1 : Int32))), some (.int (l4 + (1 : Int32)))]) r_X6_take_34 rfl rfl ?_
  refine xm_E_s r_X6_take_35 rfl rfl ?_
  exact K
theorem p_X6_take_6_4 {X : xm_X} {P : List xm_M} {d : Nat} {h : xm_H} {l0 : Nat} {l1 : Nat} {l2 : Int32} {l3 : Int32} {l4 : Int32} {h0 : xm_H} {r0 : Int32} {h1 : xm_H} {r1 : Int32} {h2 : xm_H} {r2 : Int32} {h3 : xm_H} {r3 : Int32} {h4 : xm_H} (q0 : xm_V X P d 15 [.ref l1] h (some (.int r0)) h0) (q1 : X.2.2.1 l1 0 = some (.int 0)) (q2 : ¬ (r0 < l4)) (q3 : xm_V X P d 15 [.ref l1] h0 (some (.int r1)) h1) (q4 : ¬ (l4 = r1)) (q5 : xm_V X P d 17 [.ref l1, .int l4] h1 (some (.int r2)) h2) (q6 : r2 = (32 : Int32)) (q7 : xm_V X P d 20 [.ref l0, .ref l1, .int l3, .int l4] h2 (some (.int r3)) h3) (q8 : X.1[l0]? = some (.inr 5)) (q9 : ¬ (r3 = (0 : Int32))) (q10 : xm_V X P d 8 [.ref l0] h3 none h4) : xm_E X P d co_X6_take 6 [some (.ref l0), some (.ref l1), some (.int l2), some (.int l3), some (.int l4)] [] h (some (.int l2)) h4 := by
  refine xm_E_s r_X6_take_6 rfl rfl ?_
  refine xm_E_s r_X6_take_7 rfl rfl ?_
  refine xm_E_cv [.ref l1] [.int l4] r_X6_take_8 rfl rfl (Nat.le_of_ble_eq_true rfl) (xm_rs q1) rfl q0 ?_
  refine xm_E_s r_X6_take_9 rfl rfl ?_
  refine xm_E_f q2 ?_
  refine xm_E_s r_X6_take_10 rfl rfl ?_
  refine xm_E_s r_X6_take_11 rfl rfl ?_
  refine xm_E_cv [.ref l1] [.int l4] r_X6_take_12 rfl rfl (Nat.le_of_ble_eq_true rfl) (xm_rs q1) rfl q3 ?_
  refine xm_E_s r_X6_take_13 rfl rfl ?_
  refine xm_E_f q4 ?_
  refine xm_E_s r_X6_take_14 rfl rfl ?_
  refine xm_E_s r_X6_take_15 rfl rfl ?_
  refine xm_E_cv [.ref l1, .int l4] [] r_X6_take_16 rfl rfl (Nat.le_of_ble_eq_true rfl) (xm_rs q1) rfl q5 ?_
  refine xm_E_s r_X6_take_17 rfl rfl ?_
  refine xm_E_s r_X6_take_18 rfl rfl ?_
  refine xm_E_t q6 ?_
  refine xm_E_s r_X6_take_19 rfl rfl ?_
  refine xm_E_s r_X6_take_20 rfl rfl ?_
  refine xm_E_s r_X6_take_21 rfl rfl ?_
  refine xm_E_s r_X6_take_22 rfl rfl ?_
  refine xm_E_cv [.ref l0, .ref l1, .int l3, .int l4] [] r_X6_take_23 rfl rfl (Nat.le_of_ble_eq_true rfl) (xm_rc q8 (by decide)) rfl q7 ?_
  refine xm_E_s r_X6_take_24 rfl rfl ?_
  refine xm_E_f q9 ?_
  refine xm_E_s r_X6_take_25 rfl rfl ?_
  refine xm_E_cv [.ref l0] [] r_X6_take_26 rfl rfl (Nat.le_of_ble_eq_true rfl) (xm_rc q8 (by decide)) rfl q10 ?_
  refine xm_E_s r_X6_take_27 rfl rfl ?_
  exact xm_E_iret r_X6_take_28 rfl rfl
theorem p_X6_take_6_5 {X : xm_X} {P : List xm_M} {d : Nat} {h : xm_H} {l0 : Nat} {l1 : Nat} {l2 : Int32} {l3 : Int32} {l4 : Int32} {h0 : xm_H} {r0 : Int32} {h1 : xm_H} {r1 : Int32} {h2 : xm_H} {r2 : Int32} {ro : Option Value} {ho : xm_H} (q0 : xm_V X P d 15 [.ref l1] h (some (.int r0)) h0) (q1 : X.2.2.1 l1 0 = some (.int 0)) (q2 : ¬ (r0 < l4)) (q3 : xm_V X P d 15 [.ref l1] h0 (some (.int r1)) h1) (q4 : ¬ (l4 = r1)) (q5 : xm_V X P d 17 [.ref l1, .int l4] h1 (some (.int r2)) h2) (q6 : ¬ (r2 = (32 : Int32))) (K : xm_E X P d co_X6_take 6 [some (.ref l0), some (.ref l1), some (.int l2), some (.int l3), some (.int (l4 + (1 : Int32)))] [] h2 ro ho) : xm_E X P d co_X6_take 6 [some (.ref l0), some (.ref l1), some (.int l2), some (.int l3), some (.int l4)] [] h ro ho := by
  refine xm_E_s r_X6_take_6 rfl rfl ?_
  refine xm_E_s r_X6_take_7 rfl rfl ?_
  refine xm_E_cv [.ref l1] [.int l4] r_X6_take_8 rfl rfl (Nat.le_of_ble_eq_true rfl) (xm_rs q1) rfl q0 ?_
  refine xm_E_s r_X6_take_9 rfl rfl ?_
  refine xm_E_f q2 ?_
  refine xm_E_s r_X6_take_10 rfl rfl ?_
  refine xm_E_s r_X6_take_11 rfl rfl ?_
  refine xm_E_cv [.ref l1] [.int l4] r_X6_take_12 rfl rfl (Nat.le_of_ble_eq_true rfl) (xm_rs q1) rfl q3 ?_
  refine xm_E_s r_X6_take_13 rfl rfl ?_
  refine xm_E_f q4 ?_
  refine xm_E_s r_X6_take_14 rfl rfl ?_
  refine xm_E_s r_X6_take_15 rfl rfl ?_
  refine xm_E_cv [.ref l1, .int l4] [] r_X6_take_16 rfl rfl (Nat.le_of_ble_eq_true rfl) (xm_rs q1) rfl q5 ?_
  refine xm_E_s r_X6_take_17 rfl rfl ?_
  refine xm_E_s r_X6_take_18 rfl rfl ?_
  refine xm_E_f q6 ?_
  refine xm_E_s (ls1 := [some (.ref l0), some (.ref l1), some (.int l2), some (.int l3), some (.int (l4 + (1 : Int32)))]) r_X6_take_34 rfl rfl ?_
  refine xm_E_s r_X6_take_35 rfl rfl ?_
  exact K
theorem r_X6_stands_0 : co_X6_stands[0]? = some ((0, .aload_n 0, 0, 0, 0, 0, 0, 0, []) : xm_I) := rfl
theorem r_X6_stands_1 : co_X6_stands[1]? = some ((1, .getfield 22, 147, 5, 2, 0, 0, 0, []) : xm_I) := rfl
theorem r_X6_stands_2 : co_X6_stands[2]? = some ((4, .ifCond .ne 26, 0, 0, 16, 0, 0, 0, []) : xm_I) := rfl
theorem r_X6_stands_3 : co_X6_stands[3]? = some ((7, .aload_n 0, 0, 0, 0, 0, 0, 0, []) : xm_I) := rfl
theorem r_X6_stands_4 : co_X6_stands[4]? = some ((8, .getfield 31, 153, 5, 6, 0, 0, 0, []) : xm_I) := rfl
theorem r_X6_stands_5 : co_X6_stands[5]? = some ((11, .iconst 1, 0, 0, 0, 0, 1, 0, []) : xm_I) := rfl
theorem r_X6_stands_6 : co_X6_stands[6]? = some ((12, .if_icmp .ne 18, 0, 0, 16, 0, 0, 0, []) : xm_I) := rfl
theorem r_X6_stands_7 : co_X6_stands[7]? = some ((15, .iload_n 3, 0, 0, 0, 0, 0, 0, []) : xm_I) := rfl
theorem r_X6_stands_8 : co_X6_stands[8]? = some ((16, .iload_n 2, 0, 0, 0, 0, 0, 0, []) : xm_I) := rfl
theorem r_X6_stands_9 : co_X6_stands[9]? = some ((17, .isub, 0, 0, 0, 0, 0, 0, []) : xm_I) := rfl
theorem r_X6_stands_10 : co_X6_stands[10]? = some ((18, .aload_n 0, 0, 0, 0, 0, 0, 0, []) : xm_I) := rfl
theorem r_X6_stands_11 : co_X6_stands[11]? = some ((19, .getfield 25, 152, 5, 5, 0, 0, 0, []) : xm_I) := rfl
theorem r_X6_stands_12 : co_X6_stands[12]? = some ((22, .aload_n 0, 0, 0, 0, 0, 0, 0, []) : xm_I) := rfl
theorem r_X6_stands_13 : co_X6_stands[13]? = some ((23, .getfield 39, 151, 5, 4, 0, 0, 0, []) : xm_I) := rfl
theorem r_X6_stands_14 : co_X6_stands[14]? = some ((26, .isub, 0, 0, 0, 0, 0, 0, []) : xm_I) := rfl
theorem r_X6_stands_15 : co_X6_stands[15]? = some ((27, .if_icmp .eq 5, 0, 0, 18, 0, 0, 0, []) : xm_I) := rfl
theorem r_X6_stands_16 : co_X6_stands[16]? = some ((30, .iconst 0, 0, 0, 0, 0, 0, 0, []) : xm_I) := rfl
theorem r_X6_stands_17 : co_X6_stands[17]? = some ((31, .ireturn, 0, 0, 0, 3, 0, 0, []) : xm_I) := rfl
theorem r_X6_stands_18 : co_X6_stands[18]? = some ((32, .iload_n 2, 0, 0, 0, 0, 0, 0, []) : xm_I) := rfl
theorem r_X6_stands_19 : co_X6_stands[19]? = some ((33, .istore 4, 0, 0, 0, 0, 0, 0, []) : xm_I) := rfl
theorem r_X6_stands_20 : co_X6_stands[20]? = some ((35, .iload 4, 0, 0, 0, 0, 0, 0, []) : xm_I) := rfl
theorem r_X6_stands_21 : co_X6_stands[21]? = some ((37, .iload_n 3, 0, 0, 0, 0, 0, 0, []) : xm_I) := rfl
theorem r_X6_stands_22 : co_X6_stands[22]? = some ((38, .if_icmp .ge 34, 0, 0, 40, 0, 0, 0, []) : xm_I) := rfl
theorem r_X6_stands_23 : co_X6_stands[23]? = some ((41, .aload_n 1, 0, 0, 0, 0, 0, 0, []) : xm_I) := rfl
theorem r_X6_stands_24 : co_X6_stands[24]? = some ((42, .iload 4, 0, 0, 0, 0, 0, 0, []) : xm_I) := rfl
theorem r_X6_stands_25 : co_X6_stands[25]? = some ((44, .invokevirtual 184, 577, 17, 2, 99, 0, 0, []) : xm_I) := rfl
theorem r_X6_stands_26 : co_X6_stands[26]? = some ((47, .aload_n 0, 0, 0, 0, 0, 0, 0, []) : xm_I) := rfl
theorem r_X6_stands_27 : co_X6_stands[27]? = some ((48, .getfield 11, 144, 5, 0, 2, 0, 0, []) : xm_I) := rfl
theorem r_X6_stands_28 : co_X6_stands[28]? = some ((51, .aload_n 0, 0, 0, 0, 0, 0, 0, []) : xm_I) := rfl
theorem r_X6_stands_29 : co_X6_stands[29]? = some ((52, .getfield 39, 151, 5, 4, 0, 0, 0, []) : xm_I) := rfl
theorem r_X6_stands_30 : co_X6_stands[30]? = some ((55, .iload 4, 0, 0, 0, 0, 0, 0, []) : xm_I) := rfl
theorem r_X6_stands_31 : co_X6_stands[31]? = some ((57, .iadd, 0, 0, 0, 0, 0, 0, []) : xm_I) := rfl
theorem r_X6_stands_32 : co_X6_stands[32]? = some ((58, .iload_n 2, 0, 0, 0, 0, 0, 0, []) : xm_I) := rfl
theorem r_X6_stands_33 : co_X6_stands[33]? = some ((59, .isub, 0, 0, 0, 0, 0, 0, []) : xm_I) := rfl
theorem r_X6_stands_34 : co_X6_stands[34]? = some ((60, .baload, 0, 0, 0, 0, 0, 0, []) : xm_I) := rfl
theorem r_X6_stands_35 : co_X6_stands[35]? = some ((61, .if_icmp .eq 5, 0, 0, 38, 0, 0, 0, []) : xm_I) := rfl
theorem r_X6_stands_36 : co_X6_stands[36]? = some ((64, .iconst 0, 0, 0, 0, 0, 0, 0, []) : xm_I) := rfl
theorem r_X6_stands_37 : co_X6_stands[37]? = some ((65, .ireturn, 0, 0, 0, 3, 0, 0, []) : xm_I) := rfl
theorem r_X6_stands_38 : co_X6_stands[38]? = some ((66, .iinc 4 1, 0, 0, 0, 0, 1, 0, []) : xm_I) := rfl
theorem r_X6_stands_39 : co_X6_stands[39]? = some ((69, .goto (-34), 0, 0, 20, 0, 0, 0, []) : xm_I) := rfl
theorem r_X6_stands_40 : co_X6_stands[40]? = some ((72, .iconst 1, 0, 0, 0, 0, 1, 0, []) : xm_I) := rfl
theorem r_X6_stands_41 : co_X6_stands[41]? = some ((73, .ireturn, 0, 0, 0, 3, 0, 0, []) : xm_I) := rfl
theorem p_X6_stands_0_0 {X : xm_X} {P : List xm_M} {d : Nat} {h : xm_H} {l0 : Nat} {l1 : Nat} {l2 : Int32} {l3 : Int32} {ro : Option Value} {ho : xm_H} (q0 : X.1[l0]? = some (.inr 5)) (q1 : h.1 l0 2 = (0 : Int32)) (q2 : h.1 l0 6 = (1 : Int32)) (q3 : l3 - l2 = (h.1 l0 5) - (h.1 l0 4)) (K : xm_E X P d co_X6_stands 20 [some (.ref l0), some (.ref l1), some (.int l2), some (.int l3), some (.int l2)] [] h ro ho) : xm_E X P d co_X6_stands 0 [some (.ref l0), some (.ref l1), some (.int l2), some (.int l3), none] [] h ro ho := by
  refine xm_E_s r_X6_stands_0 rfl rfl ?_
  refine xm_E_s r_X6_stands_1 rfl (xm_T_gi rfl q0 rfl (Or.inl rfl)) ?_
  refine xm_E_s r_X6_stands_2 rfl rfl ?_
  refine xm_E_t q1 ?_
  refine xm_E_s r_X6_stands_3 rfl rfl ?_
  refine xm_E_s r_X6_stands_4 rfl (xm_T_gi rfl q0 rfl (Or.inl rfl)) ?_
  refine xm_E_s r_X6_stands_5 rfl rfl ?_
  refine xm_E_s r_X6_stands_6 rfl rfl ?_
  refine xm_E_t q2 ?_
  refine xm_E_s r_X6_stands_7 rfl rfl ?_
  refine xm_E_s r_X6_stands_8 rfl rfl ?_
  refine xm_E_s r_X6_stands_9 rfl rfl ?_
  refine xm_E_s r_X6_stands_10 rfl rfl ?_
  refine xm_E_s r_X6_stands_11 rfl (xm_T_gi rfl q0 rfl (Or.inl rfl)) ?_
  refine xm_E_s r_X6_stands_12 rfl rfl ?_
  refine xm_E_s r_X6_stands_13 rfl (xm_T_gi rfl q0 rfl (Or.inl rfl)) ?_
  refine xm_E_s r_X6_stands_14 rfl rfl ?_
  refine xm_E_s r_X6_stands_15 rfl rfl ?_
  refine xm_E_t q3 ?_
  refine xm_E_s r_X6_stands_18 rfl rfl ?_
  refine xm_E_s (ls1 := [some (.ref l0), some (.ref l1), some (.int l2), some (.int l3), some (.int l2)]) r_X6_stands_19 rfl rfl ?_
  exact K
theorem p_X6_stands_0_1 {X : xm_X} {P : List xm_M} {d : Nat} {h : xm_H} {l0 : Nat} {l1 : Nat} {l2 : Int32} {l3 : Int32} (q0 : X.1[l0]? = some (.inr 5)) (q1 : h.1 l0 2 = (0 : Int32)) (q2 : h.1 l0 6 = (1 : Int32)) (q3 : ¬ (l3 - l2 = (h.1 l0 5) - (h.1 l0 4))) : xm_E X P d co_X6_stands 0 [some (.ref l0), some (.ref l1), some (.int l2), some (.int l3), none] [] h (some (.int (0 : Int32))) h := by
  refine xm_E_s r_X6_stands_0 rfl rfl ?_
  refine xm_E_s r_X6_stands_1 rfl (xm_T_gi rfl q0 rfl (Or.inl rfl)) ?_
  refine xm_E_s r_X6_stands_2 rfl rfl ?_
  refine xm_E_t q1 ?_
  refine xm_E_s r_X6_stands_3 rfl rfl ?_
  refine xm_E_s r_X6_stands_4 rfl (xm_T_gi rfl q0 rfl (Or.inl rfl)) ?_
  refine xm_E_s r_X6_stands_5 rfl rfl ?_
  refine xm_E_s r_X6_stands_6 rfl rfl ?_
  refine xm_E_t q2 ?_
  refine xm_E_s r_X6_stands_7 rfl rfl ?_
  refine xm_E_s r_X6_stands_8 rfl rfl ?_
  refine xm_E_s r_X6_stands_9 rfl rfl ?_
  refine xm_E_s r_X6_stands_10 rfl rfl ?_
  refine xm_E_s r_X6_stands_11 rfl (xm_T_gi rfl q0 rfl (Or.inl rfl)) ?_
  refine xm_E_s r_X6_stands_12 rfl rfl ?_
  refine xm_E_s r_X6_stands_13 rfl (xm_T_gi rfl q0 rfl (Or.inl rfl)) ?_
  refine xm_E_s r_X6_stands_14 rfl rfl ?_
  refine xm_E_s r_X6_stands_15 rfl rfl ?_
  refine xm_E_f q3 ?_
  refine xm_E_s r_X6_stands_16 rfl rfl ?_
  exact xm_E_iret r_X6_stands_17 rfl rfl
theorem p_X6_stands_0_2 {X : xm_X} {P : List xm_M} {d : Nat} {h : xm_H} {l0 : Nat} {l1 : Nat} {l2 : Int32} {l3 : Int32} (q0 : X.1[l0]? = some (.inr 5)) (q1 : h.1 l0 2 = (0 : Int32)) (q2 : ¬ (h.1 l0 6 = (1 : Int32))) : xm_E X P d co_X6_stands 0 [some (.ref l0), some (.ref l1), some (.int l2), some (.int l3), none] [] h (some (.int (0 : Int32))) h := by
  refine xm_E_s r_X6_stands_0 rfl rfl ?_
  refine xm_E_s r_X6_stands_1 rfl (xm_T_gi rfl q0 rfl (Or.inl rfl)) ?_
  refine xm_E_s r_X6_stands_2 rfl rfl ?_
  refine xm_E_t q1 ?_
  refine xm_E_s r_X6_stands_3 rfl rfl ?_
  refine xm_E_s r_X6_stands_4 rfl (xm_T_gi rfl q0 rfl (Or.inl rfl)) ?_
  refine xm_E_s r_X6_stands_5 rfl rfl ?_
  refine xm_E_s r_X6_stands_6 rfl rfl ?_
  refine xm_E_f q2 ?_
  refine xm_E_s r_X6_stands_16 rfl rfl ?_
  exact xm_E_iret r_X6_stands_17 rfl rfl
theorem p_X6_stands_0_3 {X : xm_X} {P : List xm_M} {d : Nat} {h : xm_H} {l0 : Nat} {l1 : Nat} {l2 : Int32} {l3 : Int32} (q0 : X.1[l0]? = some (.inr 5)) (q1 : ¬ (h.1 l0 2 = (0 : Int32))) : xm_E X P d co_X6_stands 0 [some (.ref l0), some (.ref l1), some (.int l2), some (.int l3), none] [] h (some (.int (0 : Int32))) h := by
  refine xm_E_s r_X6_stands_0 rfl rfl ?_
  refine xm_E_s r_X6_stands_1 rfl (xm_T_gi rfl q0 rfl (Or.inl rfl)) ?_
  refine xm_E_s r_X6_stands_2 rfl rfl ?_
  refine xm_E_f q1 ?_
  refine xm_E_s r_X6_stands_16 rfl rfl ?_
  exact xm_E_iret r_X6_stands_17 rfl rfl
theorem p_X6_stands_20_0 {X : xm_X} {P : List xm_M} {d : Nat} {h : xm_H} {l0 : Nat} {l1 : Nat} {l2 : Int32} {l3 : Int32} {l4 : Int32} (q0 : l3 ≤ l4) : xm_E X P d co_X6_stands 20 [some (.ref l0), some (.ref l1), some (.int l2), some (.int l3), some (.int l4)] [] h (some (.int (1 : Int32))) h := by
  refine xm_E_s r_X6_stands_20 rfl rfl ?_
  refine xm_E_s r_X6_stands_21 rfl rfl ?_
  refine xm_E_s r_X6_stands_22 rfl rfl ?_
  refine xm_E_t q0 ?_
  refine xm_E_s r_X6_stands_40 rfl rfl ?_
  exact xm_E_iret r_X6_stands_41 rfl rfl
theorem p_X6_stands_20_1 {X : xm_X} {P : List xm_M} {d : Nat} {h : xm_H} {l0 : Nat} {l1 : Nat} {l2 : Int32} {l3 : Int32} {l4 : Int32} {h0 : xm_H} {r0 : Int32} {v1 : Nat} {n2 : Nat} {b2 : Nat} {ro : Option Value} {ho : xm_H} (q0 : ¬ (l3 ≤ l4)) (q1 : xm_V X P d 17 [.ref l1, .int l4] h (some (.int r0)) h0) (q2 : X.2.2.1 l1 0 = some (.int 0)) (q3 : X.1[l0]? = some (.inr 5)) (q4 : h0.2.2 l0 0 = some v1) (q5 : X.1[v1]? = some (.inl (b2, n2))) (q6 : ¬ (((h0.1 l0 4) + l4) - l2 < 0 ∨ n2 ≤ (((h0.1 l0 4) + l4) - l2).toNatClampNeg)) (q7 : 1 ≤ b2 ∧ b2 ≤ 2) (q8 : r0 = h0.1 v1 ((((h0.1 l0 4) + l4) - l2).toNatClampNeg)) (K : xm_E X P d co_X6_stands 20 [some (.ref l0), some (.ref l1), some (.int l2), some (.int l3), some (.int (l4 + (1 : Int32)))] [] h0 ro ho) : xm_E X P d co_X6_stands 20 [some (.ref l0), some (.ref l1), some (.int l2), some (.int l3), some (.int l4)] [] h ro ho := by
  refine xm_E_s r_X6_stands_20 rfl rfl ?_
  refine xm_E_s r_X6_stands_21 rfl rfl ?_
  refine xm_E_s r_X6_stands_22 rfl rfl ?_
  refine xm_E_f q0 ?_
  refine xm_E_s r_X6_stands_23 rfl rfl ?_
  refine xm_E_s r_X6_stands_24 rfl rfl ?_
  refine xm_E_cv [.ref l1, .int l4] [] r_X6_stands_25 rfl rfl (Nat.le_of_ble_eq_true rfl) (xm_rs q2) rfl q1 ?_
  refine xm_E_s r_X6_stands_26 rfl rfl ?_
  refine xm_E_s r_X6_stands_27 rfl (xm_T_gr rfl q3 rfl rfl q4) ?_
  refine xm_E_s r_X6_stands_28 rfl rfl ?_
  refine xm_E_s r_X6_stands_29 rfl (xm_T_gi rfl q3 rfl (Or.inl rfl)) ?_
  refine xm_E_s r_X6_stands_30 rfl rfl ?_
  refine xm_E_s r_X6_stands_31 rfl rfl ?_
  refine xm_E_s r_X6_stands_32 rfl rfl ?_
  refine xm_E_s r_X6_stands_33 rfl rfl ?_
  refine xm_E_s r_X6_stands_34 rfl (xm_T_bald rfl q5 q7 q6) ?_
  refine xm_E_s r_X6_stands_35 rfl rfl ?_
  refine xm_E_t q8 ?_
  refine xm_E_s (ls1 := [some (.ref l0), some (.ref l1), some (.int l2), some (.int l3), some (.int (l4 + (1 : Int32)))]) r_X6_stands_38 rfl rfl ?_
  refine xm_E_s r_X6_stands_39 rfl rfl ?_
  exact K
theorem p_X6_stands_20_2 {X : xm_X} {P : List xm_M} {d : Nat} {h : xm_H} {l0 : Nat} {l1 : Nat} {l2 : Int32} {l3 : Int32} {l4 : Int32} {h0 : xm_H} {r0 : Int32} {v1 : Nat} {n2 : Nat} {b2 : Nat} (q0 : ¬ (l3 ≤ l4)) (q1 : xm_V X P d 17 [.ref l1, .int l4] h (some (.int r0)) h0) (q2 : X.2.2.1 l1 0 = some (.int 0)) (q3 : X.1[l0]? = some (.inr 5)) (q4 : h0.2.2 l0 0 = some v1) (q5 : X.1[v1]? = some (.inl (b2, n2))) (q6 : ¬ (((h0.1 l0 4) + l4) - l2 < 0 ∨ n2 ≤ (((h0.1 l0 4) + l4) - l2).toNatClampNeg)) (q7 : 1 ≤ b2 ∧ b2 ≤ 2) (q8 : ¬ (r0 = h0.1 v1 ((((h0.1 l0 4) + l4) - l2).toNatClampNeg))) : xm_E X P d co_X6_stands 20 [some (.ref l0), some (.ref l1), some (.int l2), some (.int l3), some (.int l4)] [] h (some (.int (0 : Int32))) h0 := by
  refine xm_E_s r_X6_stands_20 rfl rfl ?_
  refine xm_E_s r_X6_stands_21 rfl rfl ?_
  refine xm_E_s r_X6_stands_22 rfl rfl ?_
  refine xm_E_f q0 ?_
  refine xm_E_s r_X6_stands_23 rfl rfl ?_
  refine xm_E_s r_X6_stands_24 rfl rfl ?_
  refine xm_E_cv [.ref l1, .int l4] [] r_X6_stands_25 rfl rfl (Nat.le_of_ble_eq_true rfl) (xm_rs q2) rfl q1 ?_
  refine xm_E_s r_X6_stands_26 rfl rfl ?_
  refine xm_E_s r_X6_stands_27 rfl (xm_T_gr rfl q3 rfl rfl q4) ?_
  refine xm_E_s r_X6_stands_28 rfl rfl ?_
  refine xm_E_s r_X6_stands_29 rfl (xm_T_gi rfl q3 rfl (Or.inl rfl)) ?_
  refine xm_E_s r_X6_stands_30 rfl rfl ?_
  refine xm_E_s r_X6_stands_31 rfl rfl ?_
  refine xm_E_s r_X6_stands_32 rfl rfl ?_
  refine xm_E_s r_X6_stands_33 rfl rfl ?_
  refine xm_E_s r_X6_stands_34 rfl (xm_T_bald rfl q5 q7 q6) ?_
  refine xm_E_s r_X6_stands_35 rfl rfl ?_
  refine xm_E_f q8 ?_
  refine xm_E_s r_X6_stands_36 rfl rfl ?_
  exact xm_E_iret r_X6_stands_37 rfl rfl
theorem r_X6_fail_0 : co_X6_fail[0]? = some ((0, .aload_n 0, 0, 0, 0, 0, 0, 0, []) : xm_I) := rfl
theorem r_X6_fail_1 : co_X6_fail[1]? = some ((1, .getfield 22, 147, 5, 2, 0, 0, 0, []) : xm_I) := rfl
theorem r_X6_fail_2 : co_X6_fail[2]? = some ((4, .ifCond .ne 13, 0, 0, 9, 0, 0, 0, []) : xm_I) := rfl
theorem r_X6_fail_3 : co_X6_fail[3]? = some ((7, .aload_n 0, 0, 0, 0, 0, 0, 0, []) : xm_I) := rfl
theorem r_X6_fail_4 : co_X6_fail[4]? = some ((8, .iload_n 1, 0, 0, 0, 0, 0, 0, []) : xm_I) := rfl
theorem r_X6_fail_5 : co_X6_fail[5]? = some ((9, .putfield 22, 147, 5, 2, 0, 0, 0, []) : xm_I) := rfl
theorem r_X6_fail_6 : co_X6_fail[6]? = some ((12, .aload_n 0, 0, 0, 0, 0, 0, 0, []) : xm_I) := rfl
theorem r_X6_fail_7 : co_X6_fail[7]? = some ((13, .iload_n 2, 0, 0, 0, 0, 0, 0, []) : xm_I) := rfl
theorem r_X6_fail_8 : co_X6_fail[8]? = some ((14, .putfield 15, 149, 5, 3, 0, 0, 0, []) : xm_I) := rfl
theorem r_X6_fail_9 : co_X6_fail[9]? = some ((17, .return_, 0, 0, 0, 0, 0, 0, []) : xm_I) := rfl
theorem p_X6_fail_0_0 {X : xm_X} {P : List xm_M} {d : Nat} {h : xm_H} {l0 : Nat} {l1 : Int32} {l2 : Int32} (q0 : X.1[l0]? = some (.inr 5)) (q1 : h.1 l0 2 = (0 : Int32)) : xm_E X P d co_X6_fail 0 [some (.ref l0), some (.int l1), some (.int l2)] [] h none (xm_si (xm_si h l0 2 l1) l0 3 l2) := by
  refine xm_E_s r_X6_fail_0 rfl rfl ?_
  refine xm_E_s r_X6_fail_1 rfl (xm_T_gi rfl q0 rfl (Or.inl rfl)) ?_
  refine xm_E_s r_X6_fail_2 rfl rfl ?_
  refine xm_E_t q1 ?_
  refine xm_E_s r_X6_fail_3 rfl rfl ?_
  refine xm_E_s r_X6_fail_4 rfl rfl ?_
  refine xm_E_s r_X6_fail_5 rfl (xm_T_pi rfl q0 rfl rfl) ?_
  refine xm_E_s r_X6_fail_6 rfl rfl ?_
  refine xm_E_s r_X6_fail_7 rfl rfl ?_
  refine xm_E_s r_X6_fail_8 rfl (xm_T_pi rfl q0 rfl rfl) ?_
  exact xm_E_ret r_X6_fail_9 rfl
theorem p_X6_fail_0_1 {X : xm_X} {P : List xm_M} {d : Nat} {h : xm_H} {l0 : Nat} {l1 : Int32} {l2 : Int32} (q0 : X.1[l0]? = some (.inr 5)) (q1 : ¬ (h.1 l0 2 = (0 : Int32))) : xm_E X P d co_X6_fail 0 [some (.ref l0), some (.int l1), some (.int l2)] [] h none h := by
  refine xm_E_s r_X6_fail_0 rfl rfl ?_
  refine xm_E_s r_X6_fail_1 rfl (xm_T_gi rfl q0 rfl (Or.inl rfl)) ?_
  refine xm_E_s r_X6_fail_2 rfl rfl ?_
  refine xm_E_f q1 ?_
  exact xm_E_ret r_X6_fail_9 rfl
theorem r_X6_number_0 : co_X6_number[0]? = some ((0, .aload_n 0, 0, 0, 0, 0, 0, 0, []) : xm_I) := rfl
theorem r_X6_number_1 : co_X6_number[1]? = some ((1, .getfield 31, 153, 5, 6, 0, 0, 0, []) : xm_I) := rfl
theorem r_X6_number_2 : co_X6_number[2]? = some ((4, .iconst 2, 0, 0, 0, 0, 2, 0, []) : xm_I) := rfl
theorem r_X6_number_3 : co_X6_number[3]? = some ((5, .if_icmp .eq 14, 0, 0, 11, 0, 0, 0, []) : xm_I) := rfl
theorem r_X6_number_4 : co_X6_number[4]? = some ((8, .aload_n 0, 0, 0, 0, 0, 0, 0, []) : xm_I) := rfl
theorem r_X6_number_5 : co_X6_number[5]? = some ((9, .iconst 1, 0, 0, 0, 0, 1, 0, []) : xm_I) := rfl
theorem r_X6_number_6 : co_X6_number[6]? = some ((10, .aload_n 0, 0, 0, 0, 0, 0, 0, []) : xm_I) := rfl
theorem r_X6_number_7 : co_X6_number[7]? = some ((11, .getfield 39, 151, 5, 4, 0, 0, 0, []) : xm_I) := rfl
theorem r_X6_number_8 : co_X6_number[8]? = some ((14, .invokevirtual 42, 619, 21, 3, 5, 0, 0, []) : xm_I) := rfl
theorem r_X6_number_9 : co_X6_number[9]? = some ((17, .iload_n 1, 0, 0, 0, 0, 0, 0, []) : xm_I) := rfl
theorem r_X6_number_10 : co_X6_number[10]? = some ((18, .ireturn, 0, 0, 0, 0, 0, 0, []) : xm_I) := rfl
theorem r_X6_number_11 : co_X6_number[11]? = some ((19, .iconst 0, 0, 0, 0, 0, 0, 0, []) : xm_I) := rfl
theorem r_X6_number_12 : co_X6_number[12]? = some ((20, .istore_n 3, 0, 0, 0, 0, 0, 0, []) : xm_I) := rfl
theorem r_X6_number_13 : co_X6_number[13]? = some ((21, .aload_n 0, 0, 0, 0, 0, 0, 0, []) : xm_I) := rfl
theorem r_X6_number_14 : co_X6_number[14]? = some ((22, .getfield 39, 151, 5, 4, 0, 0, 0, []) : xm_I) := rfl
theorem r_X6_number_15 : co_X6_number[15]? = some ((25, .istore 4, 0, 0, 0, 0, 0, 0, []) : xm_I) := rfl
theorem r_X6_number_16 : co_X6_number[16]? = some ((27, .iload 4, 0, 0, 0, 0, 0, 0, []) : xm_I) := rfl
theorem r_X6_number_17 : co_X6_number[17]? = some ((29, .aload_n 0, 0, 0, 0, 0, 0, 0, []) : xm_I) := rfl
theorem r_X6_number_18 : co_X6_number[18]? = some ((30, .getfield 25, 152, 5, 5, 0, 0, 0, []) : xm_I) := rfl
theorem r_X6_number_19 : co_X6_number[19]? = some ((33, .if_icmp .ge 38, 0, 0, 38, 0, 0, 0, []) : xm_I) := rfl
theorem r_X6_number_20 : co_X6_number[20]? = some ((36, .iload 4, 0, 0, 0, 0, 0, 0, []) : xm_I) := rfl
theorem r_X6_number_21 : co_X6_number[21]? = some ((38, .sipush 1000, 0, 0, 0, 0, 1000, 0, []) : xm_I) := rfl
theorem r_X6_number_22 : co_X6_number[22]? = some ((41, .if_icmp .ge 30, 0, 0, 38, 0, 0, 0, []) : xm_I) := rfl
theorem r_X6_number_23 : co_X6_number[23]? = some ((44, .ldc 172, 628, 0, 0, 0, 1000000, 0, []) : xm_I) := rfl
theorem r_X6_number_24 : co_X6_number[24]? = some ((46, .iload_n 3, 0, 0, 0, 0, 0, 0, []) : xm_I) := rfl
theorem r_X6_number_25 : co_X6_number[25]? = some ((47, .bipush 10, 0, 0, 0, 0, 10, 0, []) : xm_I) := rfl
theorem r_X6_number_26 : co_X6_number[26]? = some ((49, .imul, 0, 0, 0, 0, 0, 0, []) : xm_I) := rfl
theorem r_X6_number_27 : co_X6_number[27]? = some ((50, .aload_n 0, 0, 0, 0, 0, 0, 0, []) : xm_I) := rfl
theorem r_X6_number_28 : co_X6_number[28]? = some ((51, .getfield 11, 144, 5, 0, 2, 0, 0, []) : xm_I) := rfl
theorem r_X6_number_29 : co_X6_number[29]? = some ((54, .iload 4, 0, 0, 0, 0, 0, 0, []) : xm_I) := rfl
theorem r_X6_number_30 : co_X6_number[30]? = some ((56, .baload, 0, 0, 0, 0, 0, 0, []) : xm_I) := rfl
theorem r_X6_number_31 : co_X6_number[31]? = some ((57, .iadd, 0, 0, 0, 0, 0, 0, []) : xm_I) := rfl
theorem r_X6_number_32 : co_X6_number[32]? = some ((58, .bipush 48, 0, 0, 0, 0, 48, 0, []) : xm_I) := rfl
theorem r_X6_number_33 : co_X6_number[33]? = some ((60, .isub, 0, 0, 0, 0, 0, 0, []) : xm_I) := rfl
theorem r_X6_number_34 : co_X6_number[34]? = some ((61, .invokestatic 173, 629, 0, 0, 3, 0, 0, []) : xm_I) := rfl
theorem r_X6_number_35 : co_X6_number[35]? = some ((64, .istore_n 3, 0, 0, 0, 0, 0, 0, []) : xm_I) := rfl
theorem r_X6_number_36 : co_X6_number[36]? = some ((65, .iinc 4 1, 0, 0, 0, 0, 1, 0, []) : xm_I) := rfl
theorem r_X6_number_37 : co_X6_number[37]? = some ((68, .goto (-41), 0, 0, 16, 0, 0, 0, []) : xm_I) := rfl
theorem r_X6_number_38 : co_X6_number[38]? = some ((71, .iload_n 3, 0, 0, 0, 0, 0, 0, []) : xm_I) := rfl
theorem r_X6_number_39 : co_X6_number[39]? = some ((72, .iload_n 1, 0, 0, 0, 0, 0, 0, []) : xm_I) := rfl
theorem r_X6_number_40 : co_X6_number[40]? = some ((73, .if_icmp .lt 8, 0, 0, 44, 0, 0, 0, []) : xm_I) := rfl
theorem r_X6_number_41 : co_X6_number[41]? = some ((76, .iload_n 3, 0, 0, 0, 0, 0, 0, []) : xm_I) := rfl
theorem r_X6_number_42 : co_X6_number[42]? = some ((77, .iload_n 2, 0, 0, 0, 0, 0, 0, []) : xm_I) := rfl
theorem r_X6_number_43 : co_X6_number[43]? = some ((78, .if_icmp .le 14, 0, 0, 51, 0, 0, 0, []) : xm_I) := rfl
theorem r_X6_number_44 : co_X6_number[44]? = some ((81, .aload_n 0, 0, 0, 0, 0, 0, 0, []) : xm_I) := rfl
theorem r_X6_number_45 : co_X6_number[45]? = some ((82, .iconst 2, 0, 0, 0, 0, 2, 0, []) : xm_I) := rfl
theorem r_X6_number_46 : co_X6_number[46]? = some ((83, .aload_n 0, 0, 0, 0, 0, 0, 0, []) : xm_I) := rfl
theorem r_X6_number_47 : co_X6_number[47]? = some ((84, .getfield 39, 151, 5, 4, 0, 0, 0, []) : xm_I) := rfl
theorem r_X6_number_48 : co_X6_number[48]? = some ((87, .invokevirtual 42, 619, 21, 3, 5, 0, 0, []) : xm_I) := rfl
theorem r_X6_number_49 : co_X6_number[49]? = some ((90, .iload_n 1, 0, 0, 0, 0, 0, 0, []) : xm_I) := rfl
theorem r_X6_number_50 : co_X6_number[50]? = some ((91, .ireturn, 0, 0, 0, 0, 0, 0, []) : xm_I) := rfl
theorem r_X6_number_51 : co_X6_number[51]? = some ((92, .aload_n 0, 0, 0, 0, 0, 0, 0, []) : xm_I) := rfl
theorem r_X6_number_52 : co_X6_number[52]? = some ((93, .invokevirtual 28, 540, 8, 1, 5, 0, 0, []) : xm_I) := rfl
theorem r_X6_number_53 : co_X6_number[53]? = some ((96, .iload_n 3, 0, 0, 0, 0, 0, 0, []) : xm_I) := rfl
theorem r_X6_number_54 : co_X6_number[54]? = some ((97, .ireturn, 0, 0, 0, 0, 0, 0, []) : xm_I) := rfl
theorem p_X6_number_0_0 {X : xm_X} {P : List xm_M} {d : Nat} {h : xm_H} {l0 : Nat} {l1 : Int32} {l2 : Int32} {ro : Option Value} {ho : xm_H} (q0 : X.1[l0]? = some (.inr 5)) (q1 : h.1 l0 6 = (2 : Int32)) (K : xm_E X P d co_X6_number 16 [some (.ref l0), some (.int l1), some (.int l2), some (.int (0 : Int32)), some (.int (h.1 l0 4))] [] h ro ho) : xm_E X P d co_X6_number 0 [some (.ref l0), some (.int l1), some (.int l2), none, none] [] h ro ho := by
  refine xm_E_s r_X6_number_0 rfl rfl ?_
  refine xm_E_s r_X6_number_1 rfl (xm_T_gi rfl q0 rfl (Or.inl rfl)) ?_
  refine xm_E_s r_X6_number_2 rfl rfl ?_
  refine xm_E_s r_X6_number_3 rfl rfl ?_
  refine xm_E_t q1 ?_
  refine xm_E_s r_X6_number_11 rfl rfl ?_
  refine xm_E_s (ls1 := [some (.ref l0), some (.int l1), some (.int l2), some (.int (0 : Int32)), none]) r_X6_number_12 rfl rfl ?_
  refine xm_E_s r_X6_number_13 rfl rfl ?_
  refine xm_E_s r_X6_number_14 rfl (xm_T_gi rfl q0 rfl (Or.inl rfl)) ?_
  refine xm_E_s (ls1 := [some (.ref l0), some (.int l1), some (.int l2), some (.int (0 : Int32)), some (.int (h.1 l0 4))]) r_X6_number_15 rfl rfl ?_
  exact K
theorem p_X6_number_0_1 {X : xm_X} {P : List xm_M} {d : Nat} {h : xm_H} {l0 : Nat} {l1 : Int32} {l2 : Int32} {h0 : xm_H} (q0 : X.1[l0]? = some (.inr 5)) (q1 : ¬ (h.1 l0 6 = (2 : Int32))) (q2 : xm_V X P d 21 [.ref l0, .int (1 : Int32), .int (h.1 l0 4)] h none h0) : xm_E X P d co_X6_number 0 [some (.ref l0), some (.int l1), some (.int l2), none, none] [] h (some (.int l1)) h0 := by
  refine xm_E_s r_X6_number_0 rfl rfl ?_
  refine xm_E_s r_X6_number_1 rfl (xm_T_gi rfl q0 rfl (Or.inl rfl)) ?_
  refine xm_E_s r_X6_number_2 rfl rfl ?_
  refine xm_E_s r_X6_number_3 rfl rfl ?_
  refine xm_E_f q1 ?_
  refine xm_E_s r_X6_number_4 rfl rfl ?_
  refine xm_E_s r_X6_number_5 rfl rfl ?_
  refine xm_E_s r_X6_number_6 rfl rfl ?_
  refine xm_E_s r_X6_number_7 rfl (xm_T_gi rfl q0 rfl (Or.inl rfl)) ?_
  refine xm_E_cv [.ref l0, .int (1 : Int32), .int (h.1 l0 4)] [] r_X6_number_8 rfl rfl (Nat.le_of_ble_eq_true rfl) (xm_rc q0 (by decide)) rfl q2 ?_
  refine xm_E_s r_X6_number_9 rfl rfl ?_
  exact xm_E_iret r_X6_number_10 rfl rfl
theorem p_X6_number_16_0 {X : xm_X} {P : List xm_M} {d : Nat} {h : xm_H} {l0 : Nat} {l1 : Int32} {l2 : Int32} {l3 : Int32} {l4 : Int32} {h0 : xm_H} (q0 : X.1[l0]? = some (.inr 5)) (q1 : h.1 l0 5 ≤ l4) (q2 : l3 < l1) (q3 : xm_V X P d 21 [.ref l0, .int (2 : Int32), .int (h.1 l0 4)] h none h0) : xm_E X P d co_X6_number 16 [some (.ref l0), some (.int l1), some (.int l2), some (.int l3), some (.int l4)] [] h (some (.int l1)) h0 := by
  refine xm_E_s r_X6_number_16 rfl rfl ?_
  refine xm_E_s r_X6_number_17 rfl rfl ?_
  refine xm_E_s r_X6_number_18 rfl (xm_T_gi rfl q0 rfl (Or.inl rfl)) ?_
  refine xm_E_s r_X6_number_19 rfl rfl ?_
  refine xm_E_t q1 ?_
  refine xm_E_s r_X6_number_38 rfl rfl ?_
  refine xm_E_s r_X6_number_39 rfl rfl ?_
  refine xm_E_s r_X6_number_40 rfl rfl ?_
  refine xm_E_t q2 ?_
  refine xm_E_s r_X6_number_44 rfl rfl ?_
  refine xm_E_s r_X6_number_45 rfl rfl ?_
  refine xm_E_s r_X6_number_46 rfl rfl ?_
  refine xm_E_s r_X6_number_47 rfl (xm_T_gi rfl q0 rfl (Or.inl rfl)) ?_
  refine xm_E_cv [.ref l0, .int (2 : Int32), .int (h.1 l0 4)] [] r_X6_number_48 rfl rfl (Nat.le_of_ble_eq_true rfl) (xm_rc q0 (by decide)) rfl q3 ?_
  refine xm_E_s r_X6_number_49 rfl rfl ?_
  exact xm_E_iret r_X6_number_50 rfl rfl
theorem p_X6_number_16_1 {X : xm_X} {P : List xm_M} {d : Nat} {h : xm_H} {l0 : Nat} {l1 : Int32} {l2 : Int32} {l3 : Int32} {l4 : Int32} {h0 : xm_H} (q0 : X.1[l0]? = some (.inr 5)) (q1 : h.1 l0 5 ≤ l4) (q2 : ¬ (l3 < l1)) (q3 : l3 ≤ l2) (q4 : xm_V X P d 8 [.ref l0] h none h0) : xm_E X P d co_X6_number 16 [some (.ref l0), some (.int l1), some (.int l2), some (.int l3), some (.int l4)] [] h (some (.int l3)) h0 := by
  refine xm_E_s r_X6_number_16 rfl rfl ?_
  refine xm_E_s r_X6_number_17 rfl rfl ?_
  refine xm_E_s r_X6_number_18 rfl (xm_T_gi rfl q0 rfl (Or.inl rfl)) ?_
  refine xm_E_s r_X6_number_19 rfl rfl ?_
  refine xm_E_t q1 ?_
  refine xm_E_s r_X6_number_38 rfl rfl ?_
  refine xm_E_s r_X6_number_39 rfl rfl ?_
  refine xm_E_s r_X6_number_40 rfl rfl ?_
  refine xm_E_f q2 ?_
  refine xm_E_s r_X6_number_41 rfl rfl ?_
  refine xm_E_s r_X6_number_42 rfl rfl ?_
  refine xm_E_s r_X6_number_43 rfl rfl ?_
  refine xm_E_t q3 ?_
  refine xm_E_s r_X6_number_51 rfl rfl ?_
  refine xm_E_cv [.ref l0] [] r_X6_number_52 rfl rfl (Nat.le_of_ble_eq_true rfl) (xm_rc q0 (by decide)) rfl q4 ?_
  refine xm_E_s r_X6_number_53 rfl rfl ?_
  exact xm_E_iret r_X6_number_54 rfl rfl
theorem p_X6_number_16_2 {X : xm_X} {P : List xm_M} {d : Nat} {h : xm_H} {l0 : Nat} {l1 : Int32} {l2 : Int32} {l3 : Int32} {l4 : Int32} {h0 : xm_H} (q0 : X.1[l0]? = some (.inr 5)) (q1 : h.1 l0 5 ≤ l4) (q2 : ¬ (l3 < l1)) (q3 : ¬ (l3 ≤ l2)) (q4 : xm_V X P d 21 [.ref l0, .int (2 : Int32), .int (h.1 l0 4)] h none h0) : xm_E X P d co_X6_number 16 [some (.ref l0), some (.int l1), some (.int l2), some (.int l3), some (.int l4)] [] h (some (.int l1)) h0 := by
  refine xm_E_s r_X6_number_16 rfl rfl ?_
  refine xm_E_s r_X6_number_17 rfl rfl ?_
  refine xm_E_s r_X6_number_18 rfl (xm_T_gi rfl q0 rfl (Or.inl rfl)) ?_
  refine xm_E_s r_X6_number_19 rfl rfl ?_
  refine xm_E_t q1 ?_
  refine xm_E_s r_X6_number_38 rfl rfl ?_
  refine xm_E_s r_X6_number_39 rfl rfl ?_
  refine xm_E_s r_X6_number_40 rfl rfl ?_
  refine xm_E_f q2 ?_
  refine xm_E_s r_X6_number_41 rfl rfl ?_
  refine xm_E_s r_X6_number_42 rfl rfl ?_
  refine xm_E_s r_X6_number_43 rfl rfl ?_
  refine xm_E_f q3 ?_
  refine xm_E_s r_X6_number_44 rfl rfl ?_
  refine xm_E_s r_X6_number_45 rfl rfl ?_
  refine xm_E_s r_X6_number_46 rfl rfl ?_
  refine xm_E_s r_X6_number_47 rfl (xm_T_gi rfl q0 rfl (Or.inl rfl)) ?_
  refine xm_E_cv [.ref l0, .int (2 : Int32), .int (h.1 l0 4)] [] r_X6_number_48 rfl rfl (Nat.le_of_ble_eq_true rfl) (xm_rc q0 (by decide)) rfl q4 ?_
  refine xm_E_s r_X6_number_49 rfl rfl ?_
  exact xm_E_iret r_X6_number_50 rfl rfl
theorem p_X6_number_16_3 {X : xm_X} {P : List xm_M} {d : Nat} {h : xm_H} {l0 : Nat} {l1 : Int32} {l2 : Int32} {l3 : Int32} {l4 : Int32} {h0 : xm_H} (q0 : X.1[l0]? = some (.inr 5)) (q1 : ¬ (h.1 l0 5 ≤ l4)) (q2 : (1000 : Int32) ≤ l4) (q3 : l3 < l1) (q4 : xm_V X P d 21 [.ref l0, .int (2 : Int32), .int (h.1 l0 4)] h none h0) : xm_E X P d co_X6_number 16 [some (.ref l0), some (.int l1), some (.int l2), some (.int l3), some (.int l4)] [] h (some (.int l1)) h0 := by
  refine xm_E_s r_X6_number_16 rfl rfl ?_
  refine xm_E_s r_X6_number_17 rfl rfl ?_
  refine xm_E_s r_X6_number_18 rfl (xm_T_gi rfl q0 rfl (Or.inl rfl)) ?_
  refine xm_E_s r_X6_number_19 rfl rfl ?_
  refine xm_E_f q1 ?_
  refine xm_E_s r_X6_number_20 rfl rfl ?_
  refine xm_E_s r_X6_number_21 rfl rfl ?_
  refine xm_E_s r_X6_number_22 rfl rfl ?_
  refine xm_E_t q2 ?_
  refine xm_E_s r_X6_number_38 rfl rfl ?_
  refine xm_E_s r_X6_number_39 rfl rfl ?_
  refine xm_E_s r_X6_number_40 rfl rfl ?_
  refine xm_E_t q3 ?_
  refine xm_E_s r_X6_number_44 rfl rfl ?_
  refine xm_E_s r_X6_number_45 rfl rfl ?_
  refine xm_E_s r_X6_number_46 rfl rfl ?_
  refine xm_E_s r_X6_number_47 rfl (xm_T_gi rfl q0 rfl (Or.inl rfl)) ?_
  refine xm_E_cv [.ref l0, .int (2 : Int32), .int (h.1 l0 4)] [] r_X6_number_48 rfl rfl (Nat.le_of_ble_eq_true rfl) (xm_rc q0 (by decide)) rfl q4 ?_
  refine xm_E_s r_X6_number_49 rfl rfl ?_
  exact xm_E_iret r_X6_number_50 rfl rfl
theorem p_X6_number_16_4 {X : xm_X} {P : List xm_M} {d : Nat} {h : xm_H} {l0 : Nat} {l1 : Int32} {l2 : Int32} {l3 : Int32} {l4 : Int32} {h0 : xm_H} (q0 : X.1[l0]? = some (.inr 5)) (q1 : ¬ (h.1 l0 5 ≤ l4)) (q2 : (1000 : Int32) ≤ l4) (q3 : ¬ (l3 < l1)) (q4 : l3 ≤ l2) (q5 : xm_V X P d 8 [.ref l0] h none h0) : xm_E X P d co_X6_number 16 [some (.ref l0), some (.int l1), some (.int l2), some (.int l3), some (.int l4)] [] h (some (.int l3)) h0 := by
  refine xm_E_s r_X6_number_16 rfl rfl ?_
  refine xm_E_s r_X6_number_17 rfl rfl ?_
  refine xm_E_s r_X6_number_18 rfl (xm_T_gi rfl q0 rfl (Or.inl rfl)) ?_
  refine xm_E_s r_X6_number_19 rfl rfl ?_
  refine xm_E_f q1 ?_
  refine xm_E_s r_X6_number_20 rfl rfl ?_
  refine xm_E_s r_X6_number_21 rfl rfl ?_
  refine xm_E_s r_X6_number_22 rfl rfl ?_
  refine xm_E_t q2 ?_
  refine xm_E_s r_X6_number_38 rfl rfl ?_
  refine xm_E_s r_X6_number_39 rfl rfl ?_
  refine xm_E_s r_X6_number_40 rfl rfl ?_
  refine xm_E_f q3 ?_
  refine xm_E_s r_X6_number_41 rfl rfl ?_
  refine xm_E_s r_X6_number_42 rfl rfl ?_
  refine xm_E_s r_X6_number_43 rfl rfl ?_
  refine xm_E_t q4 ?_
  refine xm_E_s r_X6_number_51 rfl rfl ?_
  refine xm_E_cv [.ref l0] [] r_X6_number_52 rfl rfl (Nat.le_of_ble_eq_true rfl) (xm_rc q0 (by decide)) rfl q5 ?_
  refine xm_E_s r_X6_number_53 rfl rfl ?_
  exact xm_E_iret r_X6_number_54 rfl rfl
theorem p_X6_number_16_5 {X : xm_X} {P : List xm_M} {d : Nat} {h : xm_H} {l0 : Nat} {l1 : Int32} {l2 : Int32} {l3 : Int32} {l4 : Int32} {h0 : xm_H} (q0 : X.1[l0]? = some (.inr 5)) (q1 : ¬ (h.1 l0 5 ≤ l4)) (q2 : (1000 : Int32) ≤ l4) (q3 : ¬ (l3 < l1)) (q4 : ¬ (l3 ≤ l2)) (q5 : xm_V X P d 21 [.ref l0, .int (2 : Int32), .int (h.1 l0 4)] h none h0) : xm_E X P d co_X6_number 16 [some (.ref l0), some (.int l1), some (.int l2), some (.int l3), some (.int l4)] [] h (some (.int l1)) h0 := by
  refine xm_E_s r_X6_number_16 rfl rfl ?_
  refine xm_E_s r_X6_number_17 rfl rfl ?_
  refine xm_E_s r_X6_number_18 rfl (xm_T_gi rfl q0 rfl (Or.inl rfl)) ?_
  refine xm_E_s r_X6_number_19 rfl rfl ?_
  refine xm_E_f q1 ?_
  refine xm_E_s r_X6_number_20 rfl rfl ?_
  refine xm_E_s r_X6_number_21 rfl rfl ?_
  refine xm_E_s r_X6_number_22 rfl rfl ?_
  refine xm_E_t q2 ?_
  refine xm_E_s r_X6_number_38 rfl rfl ?_
  refine xm_E_s r_X6_number_39 rfl rfl ?_
  refine xm_E_s r_X6_number_40 rfl rfl ?_
  refine xm_E_f q3 ?_
  refine xm_E_s r_X6_number_41 rfl rfl ?_
  refine xm_E_s r_X6_number_42 rfl rfl ?_
  refine xm_E_s r_X6_number_43 rfl rfl ?_
  refine xm_E_f q4 ?_
  refine xm_E_s r_X6_number_44 rfl rfl ?_
  refine xm_E_s r_X6_number_45 rfl rfl ?_
  refine xm_E_s r_X6_number_46 rfl rfl ?_
  refine xm_E_s r_X6_number_47 rfl (xm_T_gi rfl q0 rfl (Or.inl rfl)) ?_
  refine xm_E_cv [.ref l0, .int (2 : Int32), .int (h.1 l0 4)] [] r_X6_number_48 rfl rfl (Nat.le_of_ble_eq_true rfl) (xm_rc q0 (by decide)) rfl q5 ?_
  refine xm_E_s r_X6_number_49 rfl rfl ?_
  exact xm_E_iret r_X6_number_50 rfl rfl
theorem p_X6_number_16_6 {X : xm_X} {P : List xm_M} {d : Nat} {h : xm_H} {l0 : Nat} {l1 : Int32} {l2 : Int32} {l3 : Int32} {l4 : Int32} {v0 : Nat} {n1 : Nat} {b1 : Nat} {ro : Option Value} {ho : xm_H} (q0 : X.1[l0]? = some (.inr 5)) (q1 : ¬ (h.1 l0 5 ≤ l4)) (q2 : ¬ ((1000 : Int32) ≤ l4)) (q3 : h.2.2 l0 0 = some v0) (q4 : X.1[v0]? = some (.inl (b1, n1))) (q5 : ¬ (l4 < 0 ∨ n1 ≤ l4.toNatClampNeg)) (q6 : 1 ≤ b1 ∧ b1 ≤ 2) (K : xm_E X P d co_X6_number 16 [some (.ref l0), some (.int l1), some (.int l2), some (.int (if ((l3 * (10 : Int32)) + (h.1 v0 l4.toNatClampNeg)) - (48 : Int32) < (1000000 : Int32) then ((l3 * (10 : Int32)) + (h.1 v0 l4.toNatClampNeg)) - (48 : Int32) else (1000000 : Int32))), some (.int (l4 + (1 : Int32)))] [] h ro ho) : xm_E X P d co_X6_number 16 [some (.ref l0), some (.int l1), some (.int l2), some (.int l3), some (.int l4)] [] h ro ho := by
  refine xm_E_s r_X6_number_16 rfl rfl ?_
  refine xm_E_s r_X6_number_17 rfl rfl ?_
  refine xm_E_s r_X6_number_18 rfl (xm_T_gi rfl q0 rfl (Or.inl rfl)) ?_
  refine xm_E_s r_X6_number_19 rfl rfl ?_
  refine xm_E_f q1 ?_
  refine xm_E_s r_X6_number_20 rfl rfl ?_
  refine xm_E_s r_X6_number_21 rfl rfl ?_
  refine xm_E_s r_X6_number_22 rfl rfl ?_
  refine xm_E_f q2 ?_
  refine xm_E_s r_X6_number_23 rfl rfl ?_
  refine xm_E_s r_X6_number_24 rfl rfl ?_
  refine xm_E_s r_X6_number_25 rfl rfl ?_
  refine xm_E_s r_X6_number_26 rfl rfl ?_
  refine xm_E_s r_X6_number_27 rfl rfl ?_
  refine xm_E_s r_X6_number_28 rfl (xm_T_gr rfl q0 rfl rfl q3) ?_
  refine xm_E_s r_X6_number_29 rfl rfl ?_
  refine xm_E_s r_X6_number_30 rfl (xm_T_bald rfl q4 q6 q5) ?_
  refine xm_E_s r_X6_number_31 rfl rfl ?_
  refine xm_E_s r_X6_number_32 rfl rfl ?_
  refine xm_E_s r_X6_number_33 rfl rfl ?_
  refine xm_E_s r_X6_number_34 rfl rfl ?_
  refine xm_E_s (ls1 := [some (.ref l0), some (.int l1), some (.int l2), some (.int (if ((l3 * (10 : Int32)) + (h.1 v0 l4.toNatClampNeg)) - (48 : Int32) < (1000000 : Int32) then ((l3 * (10 : Int32)) + (h.1 v0 l4.toNatClampNeg)) - (48 : Int32) else (1000000 : Int32))), some (.int l4)]) r_X6_number_35 rfl rfl ?_
  refine xm_E_s (ls1 := [some (.ref l0), some (.int l1), some (.int l2), some (.int (if ((l3 * (10 : Int32)) + (h.1 v0 l4.toNatClampNeg)) - (48 : Int32) < (1000000 : Int32) then ((l3 * (10 : Int32)) + (h.1 v0 l4.toNatClampNeg)) - (48 : Int32) else (1000000 : Int32))), some (.int (l4 + (1 : Int32)))]) r_X6_number_36 rfl rfl ?_
  refine xm_E_s r_X6_number_37 rfl rfl ?_
  exact K
theorem r_X6_readLine_0 : co_X6_readLine[0]? = some ((0, .aload_n 0, 0, 0, 0, 0, 0, 0, []) : xm_I) := rfl
theorem r_X6_readLine_1 : co_X6_readLine[1]? = some ((1, .getfield 39, 151, 5, 4, 0, 0, 0, []) : xm_I) := rfl
theorem r_X6_readLine_2 : co_X6_readLine[2]? = some ((4, .istore_n 2, 0, 0, 0, 0, 0, 0, []) : xm_I) := rfl
theorem r_X6_readLine_3 : co_X6_readLine[3]? = some ((5, .aload_n 0, 0, 0, 0, 0, 0, 0, []) : xm_I) := rfl
theorem r_X6_readLine_4 : co_X6_readLine[4]? = some ((6, .ldc 79, 6, 0, 1012, 1, 0, 0, []) : xm_I) := rfl
theorem r_X6_readLine_5 : co_X6_readLine[5]? = some ((8, .invokevirtual 81, 563, 14, 2, 5, 0, 0, []) : xm_I) := rfl
theorem r_X6_readLine_6 : co_X6_readLine[6]? = some ((11, .istore_n 3, 0, 0, 0, 0, 0, 0, []) : xm_I) := rfl
theorem r_X6_readLine_7 : co_X6_readLine[7]? = some ((12, .iload_n 3, 0, 0, 0, 0, 0, 0, []) : xm_I) := rfl
theorem r_X6_readLine_8 : co_X6_readLine[8]? = some ((13, .ifCond .lt 32, 0, 0, 26, 0, 0, 0, []) : xm_I) := rfl
theorem r_X6_readLine_9 : co_X6_readLine[9]? = some ((16, .iload_n 3, 0, 0, 0, 0, 0, 0, []) : xm_I) := rfl
theorem r_X6_readLine_10 : co_X6_readLine[10]? = some ((17, .aload_n 1, 0, 0, 0, 0, 0, 0, []) : xm_I) := rfl
theorem r_X6_readLine_11 : co_X6_readLine[11]? = some ((18, .getfield 85, 251, 0, 13, 2, 0, 0, []) : xm_I) := rfl
theorem r_X6_readLine_12 : co_X6_readLine[12]? = some ((21, .arraylength, 0, 0, 0, 0, 0, 0, []) : xm_I) := rfl
theorem r_X6_readLine_13 : co_X6_readLine[13]? = some ((22, .if_icmp .ge 23, 0, 0, 26, 0, 0, 0, []) : xm_I) := rfl
theorem r_X6_readLine_14 : co_X6_readLine[14]? = some ((25, .aload_n 0, 0, 0, 0, 0, 0, 0, []) : xm_I) := rfl
theorem r_X6_readLine_15 : co_X6_readLine[15]? = some ((26, .ldc 89, 7, 0, 1014, 1, 0, 0, []) : xm_I) := rfl
theorem r_X6_readLine_16 : co_X6_readLine[16]? = some ((28, .invokevirtual 48, 559, 13, 2, 5, 0, 0, []) : xm_I) := rfl
theorem r_X6_readLine_17 : co_X6_readLine[17]? = some ((31, .aload_n 1, 0, 0, 0, 0, 0, 0, []) : xm_I) := rfl
theorem r_X6_readLine_18 : co_X6_readLine[18]? = some ((32, .getfield 85, 251, 0, 13, 2, 0, 0, []) : xm_I) := rfl
theorem r_X6_readLine_19 : co_X6_readLine[19]? = some ((35, .iload_n 3, 0, 0, 0, 0, 0, 0, []) : xm_I) := rfl
theorem r_X6_readLine_20 : co_X6_readLine[20]? = some ((36, .aload_n 0, 0, 0, 0, 0, 0, 0, []) : xm_I) := rfl
theorem r_X6_readLine_21 : co_X6_readLine[21]? = some ((37, .iconst 1, 0, 0, 0, 0, 1, 0, []) : xm_I) := rfl
theorem r_X6_readLine_22 : co_X6_readLine[22]? = some ((38, .bipush 99, 0, 0, 0, 0, 99, 0, []) : xm_I) := rfl
theorem r_X6_readLine_23 : co_X6_readLine[23]? = some ((40, .invokevirtual 54, 624, 22, 3, 5, 0, 0, []) : xm_I) := rfl
theorem r_X6_readLine_24 : co_X6_readLine[24]? = some ((43, .iastore, 0, 0, 0, 0, 0, 0, []) : xm_I) := rfl
theorem r_X6_readLine_25 : co_X6_readLine[25]? = some ((44, .return_, 0, 0, 0, 0, 0, 0, []) : xm_I) := rfl
theorem r_X6_readLine_26 : co_X6_readLine[26]? = some ((45, .aload_n 0, 0, 0, 0, 0, 0, 0, []) : xm_I) := rfl
theorem r_X6_readLine_27 : co_X6_readLine[27]? = some ((46, .ldc 90, 8, 0, 1016, 1, 0, 0, []) : xm_I) := rfl
theorem r_X6_readLine_28 : co_X6_readLine[28]? = some ((48, .invokevirtual 81, 563, 14, 2, 5, 0, 0, []) : xm_I) := rfl
theorem r_X6_readLine_29 : co_X6_readLine[29]? = some ((51, .tableswitch 95 0 5 #[37, 46, 54, 62, 77, 86], 0, 0, 60, 0, 0, 0, [30, 35, 39, 43, 50, 55]) : xm_I) := rfl
theorem r_X6_readLine_30 : co_X6_readLine[30]? = some ((88, .aload_n 0, 0, 0, 0, 0, 0, 0, []) : xm_I) := rfl
theorem r_X6_readLine_31 : co_X6_readLine[31]? = some ((89, .aload_n 1, 0, 0, 0, 0, 0, 0, []) : xm_I) := rfl
theorem r_X6_readLine_32 : co_X6_readLine[32]? = some ((90, .iload_n 2, 0, 0, 0, 0, 0, 0, []) : xm_I) := rfl
theorem r_X6_readLine_33 : co_X6_readLine[33]? = some ((91, .invokevirtual 92, 643, 24, 3, 5, 0, 0, []) : xm_I) := rfl
theorem r_X6_readLine_34 : co_X6_readLine[34]? = some ((94, .goto 58, 0, 0, 64, 0, 0, 0, []) : xm_I) := rfl
theorem r_X6_readLine_35 : co_X6_readLine[35]? = some ((97, .aload_n 0, 0, 0, 0, 0, 0, 0, []) : xm_I) := rfl
theorem r_X6_readLine_36 : co_X6_readLine[36]? = some ((98, .aload_n 1, 0, 0, 0, 0, 0, 0, []) : xm_I) := rfl
theorem r_X6_readLine_37 : co_X6_readLine[37]? = some ((99, .invokevirtual 96, 654, 26, 2, 5, 0, 0, []) : xm_I) := rfl
theorem r_X6_readLine_38 : co_X6_readLine[38]? = some ((102, .goto 50, 0, 0, 64, 0, 0, 0, []) : xm_I) := rfl
theorem r_X6_readLine_39 : co_X6_readLine[39]? = some ((105, .aload_n 0, 0, 0, 0, 0, 0, 0, []) : xm_I) := rfl
theorem r_X6_readLine_40 : co_X6_readLine[40]? = some ((106, .aload_n 1, 0, 0, 0, 0, 0, 0, []) : xm_I) := rfl
theorem r_X6_readLine_41 : co_X6_readLine[41]? = some ((107, .invokevirtual 100, 658, 27, 2, 5, 0, 0, []) : xm_I) := rfl
theorem r_X6_readLine_42 : co_X6_readLine[42]? = some ((110, .goto 42, 0, 0, 64, 0, 0, 0, []) : xm_I) := rfl
theorem r_X6_readLine_43 : co_X6_readLine[43]? = some ((113, .aload_n 1, 0, 0, 0, 0, 0, 0, []) : xm_I) := rfl
theorem r_X6_readLine_44 : co_X6_readLine[44]? = some ((114, .aload_n 0, 0, 0, 0, 0, 0, 0, []) : xm_I) := rfl
theorem r_X6_readLine_45 : co_X6_readLine[45]? = some ((115, .iconst 1, 0, 0, 0, 0, 1, 0, []) : xm_I) := rfl
theorem r_X6_readLine_46 : co_X6_readLine[46]? = some ((116, .sipush 999, 0, 0, 0, 0, 999, 0, []) : xm_I) := rfl
theorem r_X6_readLine_47 : co_X6_readLine[47]? = some ((119, .invokevirtual 54, 624, 22, 3, 5, 0, 0, []) : xm_I) := rfl
theorem r_X6_readLine_48 : co_X6_readLine[48]? = some ((122, .putfield 103, 236, 0, 9, 0, 0, 0, []) : xm_I) := rfl
theorem r_X6_readLine_49 : co_X6_readLine[49]? = some ((125, .goto 27, 0, 0, 64, 0, 0, 0, []) : xm_I) := rfl
theorem r_X6_readLine_50 : co_X6_readLine[50]? = some ((128, .aload_n 0, 0, 0, 0, 0, 0, 0, []) : xm_I) := rfl
theorem r_X6_readLine_51 : co_X6_readLine[51]? = some ((129, .aload_n 1, 0, 0, 0, 0, 0, 0, []) : xm_I) := rfl
theorem r_X6_readLine_52 : co_X6_readLine[52]? = some ((130, .iload_n 2, 0, 0, 0, 0, 0, 0, []) : xm_I) := rfl
theorem r_X6_readLine_53 : co_X6_readLine[53]? = some ((131, .invokevirtual 106, 664, 28, 3, 5, 0, 0, []) : xm_I) := rfl
theorem r_X6_readLine_54 : co_X6_readLine[54]? = some ((134, .goto 18, 0, 0, 64, 0, 0, 0, []) : xm_I) := rfl
theorem r_X6_readLine_55 : co_X6_readLine[55]? = some ((137, .aload_n 0, 0, 0, 0, 0, 0, 0, []) : xm_I) := rfl
theorem r_X6_readLine_56 : co_X6_readLine[56]? = some ((138, .aload_n 1, 0, 0, 0, 0, 0, 0, []) : xm_I) := rfl
theorem r_X6_readLine_57 : co_X6_readLine[57]? = some ((139, .iload_n 2, 0, 0, 0, 0, 0, 0, []) : xm_I) := rfl
theorem r_X6_readLine_58 : co_X6_readLine[58]? = some ((140, .invokevirtual 109, 669, 29, 3, 5, 0, 0, []) : xm_I) := rfl
theorem r_X6_readLine_59 : co_X6_readLine[59]? = some ((143, .goto 9, 0, 0, 64, 0, 0, 0, []) : xm_I) := rfl
theorem r_X6_readLine_60 : co_X6_readLine[60]? = some ((146, .aload_n 0, 0, 0, 0, 0, 0, 0, []) : xm_I) := rfl
theorem r_X6_readLine_61 : co_X6_readLine[61]? = some ((147, .iconst 1, 0, 0, 0, 0, 1, 0, []) : xm_I) := rfl
theorem r_X6_readLine_62 : co_X6_readLine[62]? = some ((148, .iload_n 2, 0, 0, 0, 0, 0, 0, []) : xm_I) := rfl
theorem r_X6_readLine_63 : co_X6_readLine[63]? = some ((149, .invokevirtual 42, 619, 21, 3, 5, 0, 0, []) : xm_I) := rfl
theorem r_X6_readLine_64 : co_X6_readLine[64]? = some ((152, .return_, 0, 0, 0, 0, 0, 0, []) : xm_I) := rfl
theorem p_X6_readLine_0_0 {X : xm_X} {P : List xm_M} {d : Nat} {h : xm_H} {l0 : Nat} {l1 : Nat} {h0 : xm_H} {r0 : Int32} {ro : Option Value} {ho : xm_H} (q0 : X.1[l0]? = some (.inr 5)) (q1 : xm_V X P d 14 [.ref l0, .ref 1012] h (some (.int r0)) h0) (q2 : r0 < (0 : Int32)) (K : xm_E X P d co_X6_readLine 26 [some (.ref l0), some (.ref l1), some (.int (h.1 l0 4)), some (.int r0)] [] h0 ro ho) : xm_E X P d co_X6_readLine 0 [some (.ref l0), some (.ref l1), none, none] [] h ro ho := by
  refine xm_E_s r_X6_readLine_0 rfl rfl ?_
  refine xm_E_s r_X6_readLine_1 rfl (xm_T_gi rfl q0 rfl (Or.inl rfl)) ?_
  refine xm_E_s (ls1 := [some (.ref l0), some (.ref l1), some (.int (h.1 l0 4)), none]) r_X6_readLine_2 rfl rfl ?_
  refine xm_E_s r_X6_readLine_3 rfl rfl ?_
  refine xm_E_s r_X6_readLine_4 rfl rfl ?_
  refine xm_E_cv [.ref l0, .ref 1012] [] r_X6_readLine_5 rfl rfl (Nat.le_of_ble_eq_true rfl) (xm_rc q0 (by decide)) rfl q1 ?_
  refine xm_E_s (ls1 := [some (.ref l0), some (.ref l1), some (.int (h.1 l0 4)), some (.int r0)]) r_X6_readLine_6 rfl rfl ?_
  refine xm_E_s r_X6_readLine_7 rfl rfl ?_
  refine xm_E_s r_X6_readLine_8 rfl rfl ?_
  refine xm_E_t q2 ?_
  exact K
theorem p_X6_readLine_0_1 {X : xm_X} {P : List xm_M} {d : Nat} {h : xm_H} {l0 : Nat} {l1 : Nat} {h0 : xm_H} {r0 : Int32} {v1 : Nat} {n2 : Nat} {ro : Option Value} {ho : xm_H} (q0 : X.1[l0]? = some (.inr 5)) (q1 : xm_V X P d 14 [.ref l0, .ref 1012] h (some (.int r0)) h0) (q2 : ¬ (r0 < (0 : Int32))) (q3 : X.1[l1]? = some (.inr 0)) (q4 : h0.2.2 l1 13 = some v1) (q5 : X.1[v1]? = some (.inl (0, n2))) (q6 : Int32.ofNat n2 ≤ r0) (K : xm_E X P d co_X6_readLine 26 [some (.ref l0), some (.ref l1), some (.int (h.1 l0 4)), some (.int r0)] [] h0 ro ho) : xm_E X P d co_X6_readLine 0 [some (.ref l0), some (.ref l1), none, none] [] h ro ho := by
  refine xm_E_s r_X6_readLine_0 rfl rfl ?_
  refine xm_E_s r_X6_readLine_1 rfl (xm_T_gi rfl q0 rfl (Or.inl rfl)) ?_
  refine xm_E_s (ls1 := [some (.ref l0), some (.ref l1), some (.int (h.1 l0 4)), none]) r_X6_readLine_2 rfl rfl ?_
  refine xm_E_s r_X6_readLine_3 rfl rfl ?_
  refine xm_E_s r_X6_readLine_4 rfl rfl ?_
  refine xm_E_cv [.ref l0, .ref 1012] [] r_X6_readLine_5 rfl rfl (Nat.le_of_ble_eq_true rfl) (xm_rc q0 (by decide)) rfl q1 ?_
  refine xm_E_s (ls1 := [some (.ref l0), some (.ref l1), some (.int (h.1 l0 4)), some (.int r0)]) r_X6_readLine_6 rfl rfl ?_
  refine xm_E_s r_X6_readLine_7 rfl rfl ?_
  refine xm_E_s r_X6_readLine_8 rfl rfl ?_
  refine xm_E_f q2 ?_
  refine xm_E_s r_X6_readLine_9 rfl rfl ?_
  refine xm_E_s r_X6_readLine_10 rfl rfl ?_
  refine xm_E_s r_X6_readLine_11 rfl (xm_T_gr rfl q3 rfl rfl q4) ?_
  refine xm_E_s r_X6_readLine_12 rfl (xm_T_alen rfl q5 (by decide)) ?_
  refine xm_E_s r_X6_readLine_13 rfl rfl ?_
  refine xm_E_t q6 ?_
  exact K
theorem p_X6_readLine_0_2 {X : xm_X} {P : List xm_M} {d : Nat} {h : xm_H} {l0 : Nat} {l1 : Nat} {h0 : xm_H} {r0 : Int32} {v1 : Nat} {n2 : Nat} {h3 : xm_H} {v4 : Nat} {h5 : xm_H} {r5 : Int32} {n6 : Nat} (q0 : X.1[l0]? = some (.inr 5)) (q1 : xm_V X P d 14 [.ref l0, .ref 1012] h (some (.int r0)) h0) (q2 : ¬ (r0 < (0 : Int32))) (q3 : X.1[l1]? = some (.inr 0)) (q4 : h0.2.2 l1 13 = some v1) (q5 : X.1[v1]? = some (.inl (0, n2))) (q6 : ¬ (Int32.ofNat n2 ≤ r0)) (q7 : xm_V X P d 13 [.ref l0, .ref 1014] h0 none h3) (q8 : h3.2.2 l1 13 = some v4) (q9 : xm_V X P d 22 [.ref l0, .int (1 : Int32), .int (99 : Int32)] h3 (some (.int r5)) h5) (q10 : X.1[v4]? = some (.inl (0, n6))) (q11 : ¬ (r0 < 0 ∨ n6 ≤ r0.toNatClampNeg)) : xm_E X P d co_X6_readLine 0 [some (.ref l0), some (.ref l1), none, none] [] h none (xm_si h5 v4 r0.toNatClampNeg r5) := by
  refine xm_E_s r_X6_readLine_0 rfl rfl ?_
  refine xm_E_s r_X6_readLine_1 rfl (xm_T_gi rfl q0 rfl (Or.inl rfl)) ?_
  refine xm_E_s (ls1 := [some (.ref l0), some (.ref l1), some (.int (h.1 l0 4)), none]) r_X6_readLine_2 rfl rfl ?_
  refine xm_E_s r_X6_readLine_3 rfl rfl ?_
  refine xm_E_s r_X6_readLine_4 rfl rfl ?_
  refine xm_E_cv [.ref l0, .ref 1012] [] r_X6_readLine_5 rfl rfl (Nat.le_of_ble_eq_true rfl) (xm_rc q0 (by decide)) rfl q1 ?_
  refine xm_E_s (ls1 := [some (.ref l0), some (.ref l1), some (.int (h.1 l0 4)), some (.int r0)]) r_X6_readLine_6 rfl rfl ?_
  refine xm_E_s r_X6_readLine_7 rfl rfl ?_
  refine xm_E_s r_X6_readLine_8 rfl rfl ?_
  refine xm_E_f q2 ?_
  refine xm_E_s r_X6_readLine_9 rfl rfl ?_
  refine xm_E_s r_X6_readLine_10 rfl rfl ?_
  refine xm_E_s r_X6_readLine_11 rfl (xm_T_gr rfl q3 rfl rfl q4) ?_
  refine xm_E_s r_X6_readLine_12 rfl (xm_T_alen rfl q5 (by decide)) ?_
  refine xm_E_s r_X6_readLine_13 rfl rfl ?_
  refine xm_E_f q6 ?_
  refine xm_E_s r_X6_readLine_14 rfl rfl ?_
  refine xm_E_s r_X6_readLine_15 rfl rfl ?_
  refine xm_E_cv [.ref l0, .ref 1014] [] r_X6_readLine_16 rfl rfl (Nat.le_of_ble_eq_true rfl) (xm_rc q0 (by decide)) rfl q7 ?_
  refine xm_E_s r_X6_readLine_17 rfl rfl ?_
  refine xm_E_s r_X6_readLine_18 rfl (xm_T_gr rfl q3 rfl rfl q8) ?_
  refine xm_E_s r_X6_readLine_19 rfl rfl ?_
  refine xm_E_s r_X6_readLine_20 rfl rfl ?_
  refine xm_E_s r_X6_readLine_21 rfl rfl ?_
  refine xm_E_s r_X6_readLine_22 rfl rfl ?_
  refine xm_E_cv [.ref l0, .int (1 : Int32), .int (99 : Int32)] [.int r0, .ref v4] r_X6_readLine_23 rfl rfl (Nat.le_of_ble_eq_true rfl) (xm_rc q0 (by decide)) rfl q9 ?_
  refine xm_E_s r_X6_readLine_24 rfl (xm_T_asi rfl q10 q11) ?_
  exact xm_E_ret r_X6_readLine_25 rfl
theorem p_X6_readLine_26_0 {X : xm_X} {P : List xm_M} {d : Nat} {h : xm_H} {l0 : Nat} {l1 : Nat} {l2 : Int32} {l3 : Int32} {h0 : xm_H} {r0 : Int32} {h1 : xm_H} (q0 : xm_V X P d 14 [.ref l0, .ref 1016] h (some (.int r0)) h0) (q1 : X.1[l0]? = some (.inr 5)) (q2 : r0 = (0 : Int32)) (q3 : xm_V X P d 24 [.ref l0, .ref l1, .int l2] h0 none h1) : xm_E X P d co_X6_readLine 26 [some (.ref l0), some (.ref l1), some (.int l2), some (.int l3)] [] h none h1 := by
  refine xm_E_s r_X6_readLine_26 rfl rfl ?_
  refine xm_E_s r_X6_readLine_27 rfl rfl ?_
  refine xm_E_cv [.ref l0, .ref 1016] [] r_X6_readLine_28 rfl rfl (Nat.le_of_ble_eq_true rfl) (xm_rc q1 (by decide)) rfl q0 ?_
  refine xm_E_s r_X6_readLine_29 rfl (xm_T_tab (0 : Int32) 30 rfl q2 (by decide) rfl) ?_
  refine xm_E_s r_X6_readLine_30 rfl rfl ?_
  refine xm_E_s r_X6_readLine_31 rfl rfl ?_
  refine xm_E_s r_X6_readLine_32 rfl rfl ?_
  refine xm_E_cv [.ref l0, .ref l1, .int l2] [] r_X6_readLine_33 rfl rfl (Nat.le_of_ble_eq_true rfl) (xm_rc q1 (by decide)) rfl q3 ?_
  refine xm_E_s r_X6_readLine_34 rfl rfl ?_
  exact xm_E_ret r_X6_readLine_64 rfl
theorem p_X6_readLine_26_1 {X : xm_X} {P : List xm_M} {d : Nat} {h : xm_H} {l0 : Nat} {l1 : Nat} {l2 : Int32} {l3 : Int32} {h0 : xm_H} {r0 : Int32} {h1 : xm_H} (q0 : xm_V X P d 14 [.ref l0, .ref 1016] h (some (.int r0)) h0) (q1 : X.1[l0]? = some (.inr 5)) (q2 : r0 = (1 : Int32)) (q3 : xm_V X P d 26 [.ref l0, .ref l1] h0 none h1) : xm_E X P d co_X6_readLine 26 [some (.ref l0), some (.ref l1), some (.int l2), some (.int l3)] [] h none h1 := by
  refine xm_E_s r_X6_readLine_26 rfl rfl ?_
  refine xm_E_s r_X6_readLine_27 rfl rfl ?_
  refine xm_E_cv [.ref l0, .ref 1016] [] r_X6_readLine_28 rfl rfl (Nat.le_of_ble_eq_true rfl) (xm_rc q1 (by decide)) rfl q0 ?_
  refine xm_E_s r_X6_readLine_29 rfl (xm_T_tab (1 : Int32) 35 rfl q2 (by decide) rfl) ?_
  refine xm_E_s r_X6_readLine_35 rfl rfl ?_
  refine xm_E_s r_X6_readLine_36 rfl rfl ?_
  refine xm_E_cv [.ref l0, .ref l1] [] r_X6_readLine_37 rfl rfl (Nat.le_of_ble_eq_true rfl) (xm_rc q1 (by decide)) rfl q3 ?_
  refine xm_E_s r_X6_readLine_38 rfl rfl ?_
  exact xm_E_ret r_X6_readLine_64 rfl
theorem p_X6_readLine_26_2 {X : xm_X} {P : List xm_M} {d : Nat} {h : xm_H} {l0 : Nat} {l1 : Nat} {l2 : Int32} {l3 : Int32} {h0 : xm_H} {r0 : Int32} {h1 : xm_H} (q0 : xm_V X P d 14 [.ref l0, .ref 1016] h (some (.int r0)) h0) (q1 : X.1[l0]? = some (.inr 5)) (q2 : r0 = (2 : Int32)) (q3 : xm_V X P d 27 [.ref l0, .ref l1] h0 none h1) : xm_E X P d co_X6_readLine 26 [some (.ref l0), some (.ref l1), some (.int l2), some (.int l3)] [] h none h1 := by
  refine xm_E_s r_X6_readLine_26 rfl rfl ?_
  refine xm_E_s r_X6_readLine_27 rfl rfl ?_
  refine xm_E_cv [.ref l0, .ref 1016] [] r_X6_readLine_28 rfl rfl (Nat.le_of_ble_eq_true rfl) (xm_rc q1 (by decide)) rfl q0 ?_
  refine xm_E_s r_X6_readLine_29 rfl (xm_T_tab (2 : Int32) 39 rfl q2 (by decide) rfl) ?_
  refine xm_E_s r_X6_readLine_39 rfl rfl ?_
  refine xm_E_s r_X6_readLine_40 rfl rfl ?_
  refine xm_E_cv [.ref l0, .ref l1] [] r_X6_readLine_41 rfl rfl (Nat.le_of_ble_eq_true rfl) (xm_rc q1 (by decide)) rfl q3 ?_
  refine xm_E_s r_X6_readLine_42 rfl rfl ?_
  exact xm_E_ret r_X6_readLine_64 rfl
theorem p_X6_readLine_26_3 {X : xm_X} {P : List xm_M} {d : Nat} {h : xm_H} {l0 : Nat} {l1 : Nat} {l2 : Int32} {l3 : Int32} {h0 : xm_H} {r0 : Int32} {h1 : xm_H} {r1 : Int32} (q0 : xm_V X P d 14 [.ref l0, .ref 1016] h (some (.int r0)) h0) (q1 : X.1[l0]? = some (.inr 5)) (q2 : r0 = (3 : Int32)) (q3 : xm_V X P d 22 [.ref l0, .int (1 : Int32), .int (999 : Int32)] h0 (some (.int r1)) h1) (q4 : X.1[l1]? = some (.inr 0)) : xm_E X P d co_X6_readLine 26 [some (.ref l0), some (.ref l1), some (.int l2), some (.int l3)] [] h none (xm_si h1 l1 9 r1) := by
  refine xm_E_s r_X6_readLine_26 rfl rfl ?_
  refine xm_E_s r_X6_readLine_27 rfl rfl ?_
  refine xm_E_cv [.ref l0, .ref 1016] [] r_X6_readLine_28 rfl rfl (Nat.le_of_ble_eq_true rfl) (xm_rc q1 (by decide)) rfl q0 ?_
  refine xm_E_s r_X6_readLine_29 rfl (xm_T_tab (3 : Int32) 43 rfl q2 (by decide) rfl) ?_
  refine xm_E_s r_X6_readLine_43 rfl rfl ?_
  refine xm_E_s r_X6_readLine_44 rfl rfl ?_
  refine xm_E_s r_X6_readLine_45 rfl rfl ?_
  refine xm_E_s r_X6_readLine_46 rfl rfl ?_
  refine xm_E_cv [.ref l0, .int (1 : Int32), .int (999 : Int32)] [.ref l1] r_X6_readLine_47 rfl rfl (Nat.le_of_ble_eq_true rfl) (xm_rc q1 (by decide)) rfl q3 ?_
  refine xm_E_s r_X6_readLine_48 rfl (xm_T_pi rfl q4 rfl rfl) ?_
  refine xm_E_s r_X6_readLine_49 rfl rfl ?_
  exact xm_E_ret r_X6_readLine_64 rfl
theorem p_X6_readLine_26_4 {X : xm_X} {P : List xm_M} {d : Nat} {h : xm_H} {l0 : Nat} {l1 : Nat} {l2 : Int32} {l3 : Int32} {h0 : xm_H} {r0 : Int32} {h1 : xm_H} (q0 : xm_V X P d 14 [.ref l0, .ref 1016] h (some (.int r0)) h0) (q1 : X.1[l0]? = some (.inr 5)) (q2 : r0 = (4 : Int32)) (q3 : xm_V X P d 28 [.ref l0, .ref l1, .int l2] h0 none h1) : xm_E X P d co_X6_readLine 26 [some (.ref l0), some (.ref l1), some (.int l2), some (.int l3)] [] h none h1 := by
  refine xm_E_s r_X6_readLine_26 rfl rfl ?_
  refine xm_E_s r_X6_readLine_27 rfl rfl ?_
  refine xm_E_cv [.ref l0, .ref 1016] [] r_X6_readLine_28 rfl rfl (Nat.le_of_ble_eq_true rfl) (xm_rc q1 (by decide)) rfl q0 ?_
  refine xm_E_s r_X6_readLine_29 rfl (xm_T_tab (4 : Int32) 50 rfl q2 (by decide) rfl) ?_
  refine xm_E_s r_X6_readLine_50 rfl rfl ?_
  refine xm_E_s r_X6_readLine_51 rfl rfl ?_
  refine xm_E_s r_X6_readLine_52 rfl rfl ?_
  refine xm_E_cv [.ref l0, .ref l1, .int l2] [] r_X6_readLine_53 rfl rfl (Nat.le_of_ble_eq_true rfl) (xm_rc q1 (by decide)) rfl q3 ?_
  refine xm_E_s r_X6_readLine_54 rfl rfl ?_
  exact xm_E_ret r_X6_readLine_64 rfl
theorem p_X6_readLine_26_5 {X : xm_X} {P : List xm_M} {d : Nat} {h : xm_H} {l0 : Nat} {l1 : Nat} {l2 : Int32} {l3 : Int32} {h0 : xm_H} {r0 : Int32} {h1 : xm_H} (q0 : xm_V X P d 14 [.ref l0, .ref 1016] h (some (.int r0)) h0) (q1 : X.1[l0]? = some (.inr 5)) (q2 : r0 = (5 : Int32)) (q3 : xm_V X P d 29 [.ref l0, .ref l1, .int l2] h0 none h1) : xm_E X P d co_X6_readLine 26 [some (.ref l0), some (.ref l1), some (.int l2), some (.int l3)] [] h none h1 := by
  refine xm_E_s r_X6_readLine_26 rfl rfl ?_
  refine xm_E_s r_X6_readLine_27 rfl rfl ?_
  refine xm_E_cv [.ref l0, .ref 1016] [] r_X6_readLine_28 rfl rfl (Nat.le_of_ble_eq_true rfl) (xm_rc q1 (by decide)) rfl q0 ?_
  refine xm_E_s r_X6_readLine_29 rfl (xm_T_tab (5 : Int32) 55 rfl q2 (by decide) rfl) ?_
  refine xm_E_s r_X6_readLine_55 rfl rfl ?_
  refine xm_E_s r_X6_readLine_56 rfl rfl ?_
  refine xm_E_s r_X6_readLine_57 rfl rfl ?_
  refine xm_E_cv [.ref l0, .ref l1, .int l2] [] r_X6_readLine_58 rfl rfl (Nat.le_of_ble_eq_true rfl) (xm_rc q1 (by decide)) rfl q3 ?_
  refine xm_E_s r_X6_readLine_59 rfl rfl ?_
  exact xm_E_ret r_X6_readLine_64 rfl
theorem p_X6_readLine_26_6 {X : xm_X} {P : List xm_M} {d : Nat} {h : xm_H} {l0 : Nat} {l1 : Nat} {l2 : Int32} {l3 : Int32} {h0 : xm_H} {r0 : Int32} {h1 : xm_H} (q0 : xm_V X P d 14 [.ref l0, .ref 1016] h (some (.int r0)) h0) (q1 : X.1[l0]? = some (.inr 5)) (q2 : r0.toInt < 0 ∨ 5 < r0.toInt) (q3 : xm_V X P d 21 [.ref l0, .int (1 : Int32), .int l2] h0 none h1) : xm_E X P d co_X6_readLine 26 [some (.ref l0), some (.ref l1), some (.int l2), some (.int l3)] [] h none h1 := by
  refine xm_E_s r_X6_readLine_26 rfl rfl ?_
  refine xm_E_s r_X6_readLine_27 rfl rfl ?_
  refine xm_E_cv [.ref l0, .ref 1016] [] r_X6_readLine_28 rfl rfl (Nat.le_of_ble_eq_true rfl) (xm_rc q1 (by decide)) rfl q0 ?_
  refine xm_E_s r_X6_readLine_29 rfl (xm_T_tabd rfl q2) ?_
  refine xm_E_s r_X6_readLine_60 rfl rfl ?_
  refine xm_E_s r_X6_readLine_61 rfl rfl ?_
  refine xm_E_s r_X6_readLine_62 rfl rfl ?_
  refine xm_E_cv [.ref l0, .int (1 : Int32), .int l2] [] r_X6_readLine_63 rfl rfl (Nat.le_of_ble_eq_true rfl) (xm_rc q1 (by decide)) rfl q3 ?_
  exact xm_E_ret r_X6_readLine_64 rfl
theorem r_X6_readCall_0 : co_X6_readCall[0]? = some ((0, .aload_n 1, 0, 0, 0, 0, 0, 0, []) : xm_I) := rfl
theorem r_X6_readCall_1 : co_X6_readCall[1]? = some ((1, .getfield 112, 225, 0, 6, 0, 0, 0, []) : xm_I) := rfl
theorem r_X6_readCall_2 : co_X6_readCall[2]? = some ((4, .bipush 6, 0, 0, 0, 0, 6, 0, []) : xm_I) := rfl
theorem r_X6_readCall_3 : co_X6_readCall[3]? = some ((6, .if_icmp .lt 10, 0, 0, 9, 0, 0, 0, []) : xm_I) := rfl
theorem r_X6_readCall_4 : co_X6_readCall[4]? = some ((9, .aload_n 0, 0, 0, 0, 0, 0, 0, []) : xm_I) := rfl
theorem r_X6_readCall_5 : co_X6_readCall[5]? = some ((10, .iconst 3, 0, 0, 0, 0, 3, 0, []) : xm_I) := rfl
theorem r_X6_readCall_6 : co_X6_readCall[6]? = some ((11, .iload_n 2, 0, 0, 0, 0, 0, 0, []) : xm_I) := rfl
theorem r_X6_readCall_7 : co_X6_readCall[7]? = some ((12, .invokevirtual 42, 619, 21, 3, 5, 0, 0, []) : xm_I) := rfl
theorem r_X6_readCall_8 : co_X6_readCall[8]? = some ((15, .return_, 0, 0, 0, 0, 0, 0, []) : xm_I) := rfl
theorem r_X6_readCall_9 : co_X6_readCall[9]? = some ((16, .aload_n 0, 0, 0, 0, 0, 0, 0, []) : xm_I) := rfl
theorem r_X6_readCall_10 : co_X6_readCall[10]? = some ((17, .ldc 115, 9, 0, 1018, 1, 0, 0, []) : xm_I) := rfl
theorem r_X6_readCall_11 : co_X6_readCall[11]? = some ((19, .invokevirtual 48, 559, 13, 2, 5, 0, 0, []) : xm_I) := rfl
theorem r_X6_readCall_12 : co_X6_readCall[12]? = some ((22, .aload_n 1, 0, 0, 0, 0, 0, 0, []) : xm_I) := rfl
theorem r_X6_readCall_13 : co_X6_readCall[13]? = some ((23, .getfield 117, 253, 0, 14, 2, 0, 0, []) : xm_I) := rfl
theorem r_X6_readCall_14 : co_X6_readCall[14]? = some ((26, .aload_n 1, 0, 0, 0, 0, 0, 0, []) : xm_I) := rfl
theorem r_X6_readCall_15 : co_X6_readCall[15]? = some ((27, .getfield 112, 225, 0, 6, 0, 0, 0, []) : xm_I) := rfl
theorem r_X6_readCall_16 : co_X6_readCall[16]? = some ((30, .aload_n 0, 0, 0, 0, 0, 0, 0, []) : xm_I) := rfl
theorem r_X6_readCall_17 : co_X6_readCall[17]? = some ((31, .ldc 119, 10, 0, 1020, 1, 0, 0, []) : xm_I) := rfl
theorem r_X6_readCall_18 : co_X6_readCall[18]? = some ((33, .invokevirtual 121, 649, 25, 2, 5, 0, 0, []) : xm_I) := rfl
theorem r_X6_readCall_19 : co_X6_readCall[19]? = some ((36, .iastore, 0, 0, 0, 0, 0, 0, []) : xm_I) := rfl
theorem r_X6_readCall_20 : co_X6_readCall[20]? = some ((37, .aload_n 0, 0, 0, 0, 0, 0, 0, []) : xm_I) := rfl
theorem r_X6_readCall_21 : co_X6_readCall[21]? = some ((38, .ldc 124, 11, 0, 1022, 1, 0, 0, []) : xm_I) := rfl
theorem r_X6_readCall_22 : co_X6_readCall[22]? = some ((40, .invokevirtual 48, 559, 13, 2, 5, 0, 0, []) : xm_I) := rfl
theorem r_X6_readCall_23 : co_X6_readCall[23]? = some ((43, .aload_n 1, 0, 0, 0, 0, 0, 0, []) : xm_I) := rfl
theorem r_X6_readCall_24 : co_X6_readCall[24]? = some ((44, .getfield 126, 255, 0, 15, 2, 0, 0, []) : xm_I) := rfl
theorem r_X6_readCall_25 : co_X6_readCall[25]? = some ((47, .aload_n 1, 0, 0, 0, 0, 0, 0, []) : xm_I) := rfl
theorem r_X6_readCall_26 : co_X6_readCall[26]? = some ((48, .getfield 112, 225, 0, 6, 0, 0, 0, []) : xm_I) := rfl
theorem r_X6_readCall_27 : co_X6_readCall[27]? = some ((51, .aload_n 0, 0, 0, 0, 0, 0, 0, []) : xm_I) := rfl
theorem r_X6_readCall_28 : co_X6_readCall[28]? = some ((52, .ldc 119, 10, 0, 1020, 1, 0, 0, []) : xm_I) := rfl
theorem r_X6_readCall_29 : co_X6_readCall[29]? = some ((54, .invokevirtual 121, 649, 25, 2, 5, 0, 0, []) : xm_I) := rfl
theorem r_X6_readCall_30 : co_X6_readCall[30]? = some ((57, .iastore, 0, 0, 0, 0, 0, 0, []) : xm_I) := rfl
theorem r_X6_readCall_31 : co_X6_readCall[31]? = some ((58, .aload_n 1, 0, 0, 0, 0, 0, 0, []) : xm_I) := rfl
theorem r_X6_readCall_32 : co_X6_readCall[32]? = some ((59, .dup, 0, 0, 0, 0, 0, 0, []) : xm_I) := rfl
theorem r_X6_readCall_33 : co_X6_readCall[33]? = some ((60, .getfield 112, 225, 0, 6, 0, 0, 0, []) : xm_I) := rfl
theorem r_X6_readCall_34 : co_X6_readCall[34]? = some ((63, .iconst 1, 0, 0, 0, 0, 1, 0, []) : xm_I) := rfl
theorem r_X6_readCall_35 : co_X6_readCall[35]? = some ((64, .iadd, 0, 0, 0, 0, 0, 0, []) : xm_I) := rfl
theorem r_X6_readCall_36 : co_X6_readCall[36]? = some ((65, .putfield 112, 225, 0, 6, 0, 0, 0, []) : xm_I) := rfl
theorem r_X6_readCall_37 : co_X6_readCall[37]? = some ((68, .return_, 0, 0, 0, 0, 0, 0, []) : xm_I) := rfl
theorem p_X6_readCall_0_0 {X : xm_X} {P : List xm_M} {d : Nat} {h : xm_H} {l0 : Nat} {l1 : Nat} {l2 : Int32} {h0 : xm_H} {v1 : Nat} {h2 : xm_H} {r2 : Int32} {n3 : Nat} {h4 : xm_H} {v5 : Nat} {h6 : xm_H} {r6 : Int32} {n7 : Nat} (q0 : X.1[l1]? = some (.inr 0)) (q1 : h.1 l1 6 < (6 : Int32)) (q2 : xm_V X P d 13 [.ref l0, .ref 1018] h none h0) (q3 : X.1[l0]? = some (.inr 5)) (q4 : h0.2.2 l1 14 = some v1) (q5 : xm_V X P d 25 [.ref l0, .ref 1020] h0 (some (.int r2)) h2) (q6 : X.1[v1]? = some (.inl (0, n3))) (q7 : ¬ (h0.1 l1 6 < 0 ∨ n3 ≤ (h0.1 l1 6).toNatClampNeg)) (q8 : xm_V X P d 13 [.ref l0, .ref 1022] (xm_si h2 v1 ((h0.1 l1 6).toNatClampNeg) r2) none h4) (q9 : h4.2.2 l1 15 = some v5) (q10 : xm_V X P d 25 [.ref l0, .ref 1020] h4 (some (.int r6)) h6) (q11 : X.1[v5]? = some (.inl (0, n7))) (q12 : ¬ (h4.1 l1 6 < 0 ∨ n7 ≤ (h4.1 l1 6).toNatClampNeg)) : xm_E X P d co_X6_readCall 0 [some (.ref l0), some (.ref l1), some (.int l2)] [] h none (xm_si (xm_si h6 v5 ((h4.1 l1 6).toNatClampNeg) r6) l1 6 (((xm_si h6 v5 ((h4.1 l1 6).toNatClampNeg) r6).1 l1 6) + (1 : Int32))) := by
  refine xm_E_s r_X6_readCall_0 rfl rfl ?_
  refine xm_E_s r_X6_readCall_1 rfl (xm_T_gi rfl q0 rfl (Or.inl rfl)) ?_
  refine xm_E_s r_X6_readCall_2 rfl rfl ?_
  refine xm_E_s r_X6_readCall_3 rfl rfl ?_
  refine xm_E_t q1 ?_
  refine xm_E_s r_X6_readCall_9 rfl rfl ?_
  refine xm_E_s r_X6_readCall_10 rfl rfl ?_
  refine xm_E_cv [.ref l0, .ref 1018] [] r_X6_readCall_11 rfl rfl (Nat.le_of_ble_eq_true rfl) (xm_rc q3 (by decide)) rfl q2 ?_
  refine xm_E_s r_X6_readCall_12 rfl rfl ?_
  refine xm_E_s r_X6_readCall_13 rfl (xm_T_gr rfl q0 rfl rfl q4) ?_
  refine xm_E_s r_X6_readCall_14 rfl rfl ?_
  refine xm_E_s r_X6_readCall_15 rfl (xm_T_gi rfl q0 rfl (Or.inl rfl)) ?_
  refine xm_E_s r_X6_readCall_16 rfl rfl ?_
  refine xm_E_s r_X6_readCall_17 rfl rfl ?_
  refine xm_E_cv [.ref l0, .ref 1020] [.int (h0.1 l1 6), .ref v1] r_X6_readCall_18 rfl rfl (Nat.le_of_ble_eq_true rfl) (xm_rc q3 (by decide)) rfl q5 ?_
  refine xm_E_s r_X6_readCall_19 rfl (xm_T_asi rfl q6 q7) ?_
  refine xm_E_s r_X6_readCall_20 rfl rfl ?_
  refine xm_E_s r_X6_readCall_21 rfl rfl ?_
  refine xm_E_cv [.ref l0, .ref 1022] [] r_X6_readCall_22 rfl rfl (Nat.le_of_ble_eq_true rfl) (xm_rc q3 (by decide)) rfl q8 ?_
  refine xm_E_s r_X6_readCall_23 rfl rfl ?_
  refine xm_E_s r_X6_readCall_24 rfl (xm_T_gr rfl q0 rfl rfl q9) ?_
  refine xm_E_s r_X6_readCall_25 rfl rfl ?_
  refine xm_E_s r_X6_readCall_26 rfl (xm_T_gi rfl q0 rfl (Or.inl rfl)) ?_
  refine xm_E_s r_X6_readCall_27 rfl rfl ?_
  refine xm_E_s r_X6_readCall_28 rfl rfl ?_
  refine xm_E_cv [.ref l0, .ref 1020] [.int (h4.1 l1 6), .ref v5] r_X6_readCall_29 rfl rfl (Nat.le_of_ble_eq_true rfl) (xm_rc q3 (by decide)) rfl q10 ?_
  refine xm_E_s r_X6_readCall_30 rfl (xm_T_asi rfl q11 q12) ?_
  refine xm_E_s r_X6_readCall_31 rfl rfl ?_
  refine xm_E_s r_X6_readCall_32 rfl rfl ?_
  refine xm_E_s r_X6_readCall_33 rfl (xm_T_gi rfl q0 rfl (Or.inl rfl)) ?_
  refine xm_E_s r_X6_readCall_34 rfl rfl ?_
  refine xm_E_s r_X6_readCall_35 rfl rfl ?_
  refine xm_E_s r_X6_readCall_36 rfl (xm_T_pi rfl q0 rfl rfl) ?_
  exact xm_E_ret r_X6_readCall_37 rfl
theorem p_X6_readCall_0_1 {X : xm_X} {P : List xm_M} {d : Nat} {h : xm_H} {l0 : Nat} {l1 : Nat} {l2 : Int32} {h0 : xm_H} (q0 : X.1[l1]? = some (.inr 0)) (q1 : ¬ (h.1 l1 6 < (6 : Int32))) (q2 : xm_V X P d 21 [.ref l0, .int (3 : Int32), .int l2] h none h0) (q3 : X.1[l0]? = some (.inr 5)) : xm_E X P d co_X6_readCall 0 [some (.ref l0), some (.ref l1), some (.int l2)] [] h none h0 := by
  refine xm_E_s r_X6_readCall_0 rfl rfl ?_
  refine xm_E_s r_X6_readCall_1 rfl (xm_T_gi rfl q0 rfl (Or.inl rfl)) ?_
  refine xm_E_s r_X6_readCall_2 rfl rfl ?_
  refine xm_E_s r_X6_readCall_3 rfl rfl ?_
  refine xm_E_f q1 ?_
  refine xm_E_s r_X6_readCall_4 rfl rfl ?_
  refine xm_E_s r_X6_readCall_5 rfl rfl ?_
  refine xm_E_s r_X6_readCall_6 rfl rfl ?_
  refine xm_E_cv [.ref l0, .int (3 : Int32), .int l2] [] r_X6_readCall_7 rfl rfl (Nat.le_of_ble_eq_true rfl) (xm_rc q3 (by decide)) rfl q2 ?_
  exact xm_E_ret r_X6_readCall_8 rfl
theorem r_X6_choose_0 : co_X6_choose[0]? = some ((0, .aload_n 0, 0, 0, 0, 0, 0, 0, []) : xm_I) := rfl
theorem r_X6_choose_1 : co_X6_choose[1]? = some ((1, .aload_n 1, 0, 0, 0, 0, 0, 0, []) : xm_I) := rfl
theorem r_X6_choose_2 : co_X6_choose[2]? = some ((2, .invokevirtual 81, 563, 14, 2, 5, 0, 0, []) : xm_I) := rfl
theorem r_X6_choose_3 : co_X6_choose[3]? = some ((5, .istore_n 2, 0, 0, 0, 0, 0, 0, []) : xm_I) := rfl
theorem r_X6_choose_4 : co_X6_choose[4]? = some ((6, .iload_n 2, 0, 0, 0, 0, 0, 0, []) : xm_I) := rfl
theorem r_X6_choose_5 : co_X6_choose[5]? = some ((7, .iconst (-1), 0, 0, 0, 0, (-1), 0, []) : xm_I) := rfl
theorem r_X6_choose_6 : co_X6_choose[6]? = some ((8, .if_icmp .ne 14, 0, 0, 14, 0, 0, 0, []) : xm_I) := rfl
theorem r_X6_choose_7 : co_X6_choose[7]? = some ((11, .aload_n 0, 0, 0, 0, 0, 0, 0, []) : xm_I) := rfl
theorem r_X6_choose_8 : co_X6_choose[8]? = some ((12, .iconst 1, 0, 0, 0, 0, 1, 0, []) : xm_I) := rfl
theorem r_X6_choose_9 : co_X6_choose[9]? = some ((13, .aload_n 0, 0, 0, 0, 0, 0, 0, []) : xm_I) := rfl
theorem r_X6_choose_10 : co_X6_choose[10]? = some ((14, .getfield 39, 151, 5, 4, 0, 0, 0, []) : xm_I) := rfl
theorem r_X6_choose_11 : co_X6_choose[11]? = some ((17, .invokevirtual 42, 619, 21, 3, 5, 0, 0, []) : xm_I) := rfl
theorem r_X6_choose_12 : co_X6_choose[12]? = some ((20, .iconst 0, 0, 0, 0, 0, 0, 0, []) : xm_I) := rfl
theorem r_X6_choose_13 : co_X6_choose[13]? = some ((21, .ireturn, 0, 0, 0, 0, 0, 0, []) : xm_I) := rfl
theorem r_X6_choose_14 : co_X6_choose[14]? = some ((22, .iload_n 2, 0, 0, 0, 0, 0, 0, []) : xm_I) := rfl
theorem r_X6_choose_15 : co_X6_choose[15]? = some ((23, .ireturn, 0, 0, 0, 0, 0, 0, []) : xm_I) := rfl
theorem p_X6_choose_0_0 {X : xm_X} {P : List xm_M} {d : Nat} {h : xm_H} {l0 : Nat} {l1 : Nat} {h0 : xm_H} {r0 : Int32} {h1 : xm_H} (q0 : xm_V X P d 14 [.ref l0, .ref l1] h (some (.int r0)) h0) (q1 : X.1[l0]? = some (.inr 5)) (q2 : r0 = (-1 : Int32)) (q3 : xm_V X P d 21 [.ref l0, .int (1 : Int32), .int (h0.1 l0 4)] h0 none h1) : xm_E X P d co_X6_choose 0 [some (.ref l0), some (.ref l1), none] [] h (some (.int (0 : Int32))) h1 := by
  refine xm_E_s r_X6_choose_0 rfl rfl ?_
  refine xm_E_s r_X6_choose_1 rfl rfl ?_
  refine xm_E_cv [.ref l0, .ref l1] [] r_X6_choose_2 rfl rfl (Nat.le_of_ble_eq_true rfl) (xm_rc q1 (by decide)) rfl q0 ?_
  refine xm_E_s (ls1 := [some (.ref l0), some (.ref l1), some (.int r0)]) r_X6_choose_3 rfl rfl ?_
  refine xm_E_s r_X6_choose_4 rfl rfl ?_
  refine xm_E_s r_X6_choose_5 rfl rfl ?_
  refine xm_E_s r_X6_choose_6 rfl rfl ?_
  refine xm_E_t q2 ?_
  refine xm_E_s r_X6_choose_7 rfl rfl ?_
  refine xm_E_s r_X6_choose_8 rfl rfl ?_
  refine xm_E_s r_X6_choose_9 rfl rfl ?_
  refine xm_E_s r_X6_choose_10 rfl (xm_T_gi rfl q1 rfl (Or.inl rfl)) ?_
  refine xm_E_cv [.ref l0, .int (1 : Int32), .int (h0.1 l0 4)] [] r_X6_choose_11 rfl rfl (Nat.le_of_ble_eq_true rfl) (xm_rc q1 (by decide)) rfl q3 ?_
  refine xm_E_s r_X6_choose_12 rfl rfl ?_
  exact xm_E_iret r_X6_choose_13 rfl rfl
theorem p_X6_choose_0_1 {X : xm_X} {P : List xm_M} {d : Nat} {h : xm_H} {l0 : Nat} {l1 : Nat} {h0 : xm_H} {r0 : Int32} (q0 : xm_V X P d 14 [.ref l0, .ref l1] h (some (.int r0)) h0) (q1 : X.1[l0]? = some (.inr 5)) (q2 : ¬ (r0 = (-1 : Int32))) : xm_E X P d co_X6_choose 0 [some (.ref l0), some (.ref l1), none] [] h (some (.int r0)) h0 := by
  refine xm_E_s r_X6_choose_0 rfl rfl ?_
  refine xm_E_s r_X6_choose_1 rfl rfl ?_
  refine xm_E_cv [.ref l0, .ref l1] [] r_X6_choose_2 rfl rfl (Nat.le_of_ble_eq_true rfl) (xm_rc q1 (by decide)) rfl q0 ?_
  refine xm_E_s (ls1 := [some (.ref l0), some (.ref l1), some (.int r0)]) r_X6_choose_3 rfl rfl ?_
  refine xm_E_s r_X6_choose_4 rfl rfl ?_
  refine xm_E_s r_X6_choose_5 rfl rfl ?_
  refine xm_E_s r_X6_choose_6 rfl rfl ?_
  refine xm_E_f q2 ?_
  refine xm_E_s r_X6_choose_14 rfl rfl ?_
  exact xm_E_iret r_X6_choose_15 rfl rfl
theorem r_X6_readSlips_0 : co_X6_readSlips[0]? = some ((0, .aload_n 0, 0, 0, 0, 0, 0, 0, []) : xm_I) := rfl
theorem r_X6_readSlips_1 : co_X6_readSlips[1]? = some ((1, .ldc 115, 9, 0, 1018, 1, 0, 0, []) : xm_I) := rfl
theorem r_X6_readSlips_2 : co_X6_readSlips[2]? = some ((3, .invokevirtual 48, 559, 13, 2, 5, 0, 0, []) : xm_I) := rfl
theorem r_X6_readSlips_3 : co_X6_readSlips[3]? = some ((6, .aload_n 1, 0, 0, 0, 0, 0, 0, []) : xm_I) := rfl
theorem r_X6_readSlips_4 : co_X6_readSlips[4]? = some ((7, .aload_n 0, 0, 0, 0, 0, 0, 0, []) : xm_I) := rfl
theorem r_X6_readSlips_5 : co_X6_readSlips[5]? = some ((8, .iconst 0, 0, 0, 0, 0, 0, 0, []) : xm_I) := rfl
theorem r_X6_readSlips_6 : co_X6_readSlips[6]? = some ((9, .bipush 50, 0, 0, 0, 0, 50, 0, []) : xm_I) := rfl
theorem r_X6_readSlips_7 : co_X6_readSlips[7]? = some ((11, .invokevirtual 54, 624, 22, 3, 5, 0, 0, []) : xm_I) := rfl
theorem r_X6_readSlips_8 : co_X6_readSlips[8]? = some ((14, .putfield 128, 229, 0, 7, 0, 0, 0, []) : xm_I) := rfl
theorem r_X6_readSlips_9 : co_X6_readSlips[9]? = some ((17, .aload_n 0, 0, 0, 0, 0, 0, 0, []) : xm_I) := rfl
theorem r_X6_readSlips_10 : co_X6_readSlips[10]? = some ((18, .ldc 124, 11, 0, 1022, 1, 0, 0, []) : xm_I) := rfl
theorem r_X6_readSlips_11 : co_X6_readSlips[11]? = some ((20, .invokevirtual 48, 559, 13, 2, 5, 0, 0, []) : xm_I) := rfl
theorem r_X6_readSlips_12 : co_X6_readSlips[12]? = some ((23, .aload_n 1, 0, 0, 0, 0, 0, 0, []) : xm_I) := rfl
theorem r_X6_readSlips_13 : co_X6_readSlips[13]? = some ((24, .aload_n 0, 0, 0, 0, 0, 0, 0, []) : xm_I) := rfl
theorem r_X6_readSlips_14 : co_X6_readSlips[14]? = some ((25, .iconst 0, 0, 0, 0, 0, 0, 0, []) : xm_I) := rfl
theorem r_X6_readSlips_15 : co_X6_readSlips[15]? = some ((26, .bipush 50, 0, 0, 0, 0, 50, 0, []) : xm_I) := rfl
theorem r_X6_readSlips_16 : co_X6_readSlips[16]? = some ((28, .invokevirtual 54, 624, 22, 3, 5, 0, 0, []) : xm_I) := rfl
theorem r_X6_readSlips_17 : co_X6_readSlips[17]? = some ((31, .putfield 131, 233, 0, 8, 0, 0, 0, []) : xm_I) := rfl
theorem r_X6_readSlips_18 : co_X6_readSlips[18]? = some ((34, .return_, 0, 0, 0, 0, 0, 0, []) : xm_I) := rfl
theorem p_X6_readSlips_0_0 {X : xm_X} {P : List xm_M} {d : Nat} {h : xm_H} {l0 : Nat} {l1 : Nat} {h0 : xm_H} {h1 : xm_H} {r1 : Int32} {h2 : xm_H} {h3 : xm_H} {r3 : Int32} (q0 : xm_V X P d 13 [.ref l0, .ref 1018] h none h0) (q1 : X.1[l0]? = some (.inr 5)) (q2 : xm_V X P d 22 [.ref l0, .int (0 : Int32), .int (50 : Int32)] h0 (some (.int r1)) h1) (q3 : X.1[l1]? = some (.inr 0)) (q4 : xm_V X P d 13 [.ref l0, .ref 1022] (xm_si h1 l1 7 r1) none h2) (q5 : xm_V X P d 22 [.ref l0, .int (0 : Int32), .int (50 : Int32)] h2 (some (.int r3)) h3) : xm_E X P d co_X6_readSlips 0 [some (.ref l0), some (.ref l1)] [] h none (xm_si h3 l1 8 r3) := by
  refine xm_E_s r_X6_readSlips_0 rfl rfl ?_
  refine xm_E_s r_X6_readSlips_1 rfl rfl ?_
  refine xm_E_cv [.ref l0, .ref 1018] [] r_X6_readSlips_2 rfl rfl (Nat.le_of_ble_eq_true rfl) (xm_rc q1 (by decide)) rfl q0 ?_
  refine xm_E_s r_X6_readSlips_3 rfl rfl ?_
  refine xm_E_s r_X6_readSlips_4 rfl rfl ?_
  refine xm_E_s r_X6_readSlips_5 rfl rfl ?_
  refine xm_E_s r_X6_readSlips_6 rfl rfl ?_
  refine xm_E_cv [.ref l0, .int (0 : Int32), .int (50 : Int32)] [.ref l1] r_X6_readSlips_7 rfl rfl (Nat.le_of_ble_eq_true rfl) (xm_rc q1 (by decide)) rfl q2 ?_
  refine xm_E_s r_X6_readSlips_8 rfl (xm_T_pi rfl q3 rfl rfl) ?_
  refine xm_E_s r_X6_readSlips_9 rfl rfl ?_
  refine xm_E_s r_X6_readSlips_10 rfl rfl ?_
  refine xm_E_cv [.ref l0, .ref 1022] [] r_X6_readSlips_11 rfl rfl (Nat.le_of_ble_eq_true rfl) (xm_rc q1 (by decide)) rfl q4 ?_
  refine xm_E_s r_X6_readSlips_12 rfl rfl ?_
  refine xm_E_s r_X6_readSlips_13 rfl rfl ?_
  refine xm_E_s r_X6_readSlips_14 rfl rfl ?_
  refine xm_E_s r_X6_readSlips_15 rfl rfl ?_
  refine xm_E_cv [.ref l0, .int (0 : Int32), .int (50 : Int32)] [.ref l1] r_X6_readSlips_16 rfl rfl (Nat.le_of_ble_eq_true rfl) (xm_rc q1 (by decide)) rfl q5 ?_
  refine xm_E_s r_X6_readSlips_17 rfl (xm_T_pi rfl q3 rfl rfl) ?_
  exact xm_E_ret r_X6_readSlips_18 rfl
theorem r_X6_readWish_0 : co_X6_readWish[0]? = some ((0, .aload_n 0, 0, 0, 0, 0, 0, 0, []) : xm_I) := rfl
theorem r_X6_readWish_1 : co_X6_readWish[1]? = some ((1, .ldc 52, 1, 0, 1002, 1, 0, 0, []) : xm_I) := rfl
theorem r_X6_readWish_2 : co_X6_readWish[2]? = some ((3, .invokevirtual 48, 559, 13, 2, 5, 0, 0, []) : xm_I) := rfl
theorem r_X6_readWish_3 : co_X6_readWish[3]? = some ((6, .aload_n 1, 0, 0, 0, 0, 0, 0, []) : xm_I) := rfl
theorem r_X6_readWish_4 : co_X6_readWish[4]? = some ((7, .getfield 134, 247, 0, 12, 2, 0, 0, []) : xm_I) := rfl
theorem r_X6_readWish_5 : co_X6_readWish[5]? = some ((10, .aload_n 0, 0, 0, 0, 0, 0, 0, []) : xm_I) := rfl
theorem r_X6_readWish_6 : co_X6_readWish[6]? = some ((11, .iconst 1, 0, 0, 0, 0, 1, 0, []) : xm_I) := rfl
theorem r_X6_readWish_7 : co_X6_readWish[7]? = some ((12, .bipush 48, 0, 0, 0, 0, 48, 0, []) : xm_I) := rfl
theorem r_X6_readWish_8 : co_X6_readWish[8]? = some ((14, .invokevirtual 54, 624, 22, 3, 5, 0, 0, []) : xm_I) := rfl
theorem r_X6_readWish_9 : co_X6_readWish[9]? = some ((17, .putfield 138, 190, 7, 0, 0, 0, 0, []) : xm_I) := rfl
theorem r_X6_readWish_10 : co_X6_readWish[10]? = some ((20, .aload_n 0, 0, 0, 0, 0, 0, 0, []) : xm_I) := rfl
theorem r_X6_readWish_11 : co_X6_readWish[11]? = some ((21, .ldc 61, 2, 0, 1004, 1, 0, 0, []) : xm_I) := rfl
theorem r_X6_readWish_12 : co_X6_readWish[12]? = some ((23, .invokevirtual 48, 559, 13, 2, 5, 0, 0, []) : xm_I) := rfl
theorem r_X6_readWish_13 : co_X6_readWish[13]? = some ((26, .aload_n 1, 0, 0, 0, 0, 0, 0, []) : xm_I) := rfl
theorem r_X6_readWish_14 : co_X6_readWish[14]? = some ((27, .getfield 134, 247, 0, 12, 2, 0, 0, []) : xm_I) := rfl
theorem r_X6_readWish_15 : co_X6_readWish[15]? = some ((30, .aload_n 0, 0, 0, 0, 0, 0, 0, []) : xm_I) := rfl
theorem r_X6_readWish_16 : co_X6_readWish[16]? = some ((31, .iconst 1, 0, 0, 0, 0, 1, 0, []) : xm_I) := rfl
theorem r_X6_readWish_17 : co_X6_readWish[17]? = some ((32, .bipush 48, 0, 0, 0, 0, 48, 0, []) : xm_I) := rfl
theorem r_X6_readWish_18 : co_X6_readWish[18]? = some ((34, .invokevirtual 54, 624, 22, 3, 5, 0, 0, []) : xm_I) := rfl
theorem r_X6_readWish_19 : co_X6_readWish[19]? = some ((37, .putfield 143, 192, 7, 1, 0, 0, 0, []) : xm_I) := rfl
theorem r_X6_readWish_20 : co_X6_readWish[20]? = some ((40, .aload_n 1, 0, 0, 0, 0, 0, 0, []) : xm_I) := rfl
theorem r_X6_readWish_21 : co_X6_readWish[21]? = some ((41, .getfield 134, 247, 0, 12, 2, 0, 0, []) : xm_I) := rfl
theorem r_X6_readWish_22 : co_X6_readWish[22]? = some ((44, .aload_n 0, 0, 0, 0, 0, 0, 0, []) : xm_I) := rfl
theorem r_X6_readWish_23 : co_X6_readWish[23]? = some ((45, .ldc 146, 12, 0, 1024, 1, 0, 0, []) : xm_I) := rfl
theorem r_X6_readWish_24 : co_X6_readWish[24]? = some ((47, .invokevirtual 121, 649, 25, 2, 5, 0, 0, []) : xm_I) := rfl
theorem r_X6_readWish_25 : co_X6_readWish[25]? = some ((50, .putfield 148, 194, 7, 2, 0, 0, 0, []) : xm_I) := rfl
theorem r_X6_readWish_26 : co_X6_readWish[26]? = some ((53, .aload_n 1, 0, 0, 0, 0, 0, 0, []) : xm_I) := rfl
theorem r_X6_readWish_27 : co_X6_readWish[27]? = some ((54, .getfield 134, 247, 0, 12, 2, 0, 0, []) : xm_I) := rfl
theorem r_X6_readWish_28 : co_X6_readWish[28]? = some ((57, .aload_n 0, 0, 0, 0, 0, 0, 0, []) : xm_I) := rfl
theorem r_X6_readWish_29 : co_X6_readWish[29]? = some ((58, .ldc 151, 13, 0, 1026, 1, 0, 0, []) : xm_I) := rfl
theorem r_X6_readWish_30 : co_X6_readWish[30]? = some ((60, .invokevirtual 121, 649, 25, 2, 5, 0, 0, []) : xm_I) := rfl
theorem r_X6_readWish_31 : co_X6_readWish[31]? = some ((63, .putfield 153, 196, 7, 3, 0, 0, 0, []) : xm_I) := rfl
theorem r_X6_readWish_32 : co_X6_readWish[32]? = some ((66, .return_, 0, 0, 0, 0, 0, 0, []) : xm_I) := rfl
theorem p_X6_readWish_0_0 {X : xm_X} {P : List xm_M} {d : Nat} {h : xm_H} {l0 : Nat} {l1 : Nat} {h0 : xm_H} {v1 : Nat} {h2 : xm_H} {r2 : Int32} {h3 : xm_H} {v4 : Nat} {h5 : xm_H} {r5 : Int32} {v6 : Nat} {h7 : xm_H} {r7 : Int32} {v8 : Nat} {h9 : xm_H} {r9 : Int32} (q0 : xm_V X P d 13 [.ref l0, .ref 1002] h none h0) (q1 : X.1[l0]? = some (.inr 5)) (q2 : X.1[l1]? = some (.inr 0)) (q3 : h0.2.2 l1 12 = some v1) (q4 : xm_V X P d 22 [.ref l0, .int (1 : Int32), .int (48 : Int32)] h0 (some (.int r2)) h2) (q5 : X.1[v1]? = some (.inr 7)) (q6 : xm_V X P d 13 [.ref l0, .ref 1004] (xm_si h2 v1 0 r2) none h3) (q7 : h3.2.2 l1 12 = some v4) (q8 : xm_V X P d 22 [.ref l0, .int (1 : Int32), .int (48 : Int32)] h3 (some (.int r5)) h5) (q9 : X.1[v4]? = some (.inr 7)) (q10 : (xm_si h5 v4 1 r5).2.2 l1 12 = some v6) (q11 : xm_V X P d 25 [.ref l0, .ref 1024] (xm_si h5 v4 1 r5) (some (.int r7)) h7) (q12 : X.1[v6]? = some (.inr 7)) (q13 : (xm_si h7 v6 2 r7).2.2 l1 12 = some v8) (q14 : xm_V X P d 25 [.ref l0, .ref 1026] (xm_si h7 v6 2 r7) (some (.int r9)) h9) (q15 : X.1[v8]? = some (.inr 7)) : xm_E X P d co_X6_readWish 0 [some (.ref l0), some (.ref l1)] [] h none (xm_si h9 v8 3 r9) := by
  refine xm_E_s r_X6_readWish_0 rfl rfl ?_
  refine xm_E_s r_X6_readWish_1 rfl rfl ?_
  refine xm_E_cv [.ref l0, .ref 1002] [] r_X6_readWish_2 rfl rfl (Nat.le_of_ble_eq_true rfl) (xm_rc q1 (by decide)) rfl q0 ?_
  refine xm_E_s r_X6_readWish_3 rfl rfl ?_
  refine xm_E_s r_X6_readWish_4 rfl (xm_T_gr rfl q2 rfl rfl q3) ?_
  refine xm_E_s r_X6_readWish_5 rfl rfl ?_
  refine xm_E_s r_X6_readWish_6 rfl rfl ?_
  refine xm_E_s r_X6_readWish_7 rfl rfl ?_
  refine xm_E_cv [.ref l0, .int (1 : Int32), .int (48 : Int32)] [.ref v1] r_X6_readWish_8 rfl rfl (Nat.le_of_ble_eq_true rfl) (xm_rc q1 (by decide)) rfl q4 ?_
  refine xm_E_s r_X6_readWish_9 rfl (xm_T_pi rfl q5 rfl rfl) ?_
  refine xm_E_s r_X6_readWish_10 rfl rfl ?_
  refine xm_E_s r_X6_readWish_11 rfl rfl ?_
  refine xm_E_cv [.ref l0, .ref 1004] [] r_X6_readWish_12 rfl rfl (Nat.le_of_ble_eq_true rfl) (xm_rc q1 (by decide)) rfl q6 ?_
  refine xm_E_s r_X6_readWish_13 rfl rfl ?_
  refine xm_E_s r_X6_readWish_14 rfl (xm_T_gr rfl q2 rfl rfl q7) ?_
  refine xm_E_s r_X6_readWish_15 rfl rfl ?_
  refine xm_E_s r_X6_readWish_16 rfl rfl ?_
  refine xm_E_s r_X6_readWish_17 rfl rfl ?_
  refine xm_E_cv [.ref l0, .int (1 : Int32), .int (48 : Int32)] [.ref v4] r_X6_readWish_18 rfl rfl (Nat.le_of_ble_eq_true rfl) (xm_rc q1 (by decide)) rfl q8 ?_
  refine xm_E_s r_X6_readWish_19 rfl (xm_T_pi rfl q9 rfl rfl) ?_
  refine xm_E_s r_X6_readWish_20 rfl rfl ?_
  refine xm_E_s r_X6_readWish_21 rfl (xm_T_gr rfl q2 rfl rfl q10) ?_
  refine xm_E_s r_X6_readWish_22 rfl rfl ?_
  refine xm_E_s r_X6_readWish_23 rfl rfl ?_
  refine xm_E_cv [.ref l0, .ref 1024] [.ref v6] r_X6_readWish_24 rfl rfl (Nat.le_of_ble_eq_true rfl) (xm_rc q1 (by decide)) rfl q11 ?_
  refine xm_E_s r_X6_readWish_25 rfl (xm_T_pi rfl q12 rfl rfl) ?_
  refine xm_E_s r_X6_readWish_26 rfl rfl ?_
  refine xm_E_s r_X6_readWish_27 rfl (xm_T_gr rfl q2 rfl rfl q13) ?_
  refine xm_E_s r_X6_readWish_28 rfl rfl ?_
  refine xm_E_s r_X6_readWish_29 rfl rfl ?_
  refine xm_E_cv [.ref l0, .ref 1026] [.ref v8] r_X6_readWish_30 rfl rfl (Nat.le_of_ble_eq_true rfl) (xm_rc q1 (by decide)) rfl q14 ?_
  refine xm_E_s r_X6_readWish_31 rfl (xm_T_pi rfl q15 rfl rfl) ?_
  exact xm_E_ret r_X6_readWish_32 rfl
theorem r_X6_readPair_0 : co_X6_readPair[0]? = some ((0, .aload_n 1, 0, 0, 0, 0, 0, 0, []) : xm_I) := rfl
theorem r_X6_readPair_1 : co_X6_readPair[1]? = some ((1, .getfield 156, 240, 0, 10, 0, 0, 0, []) : xm_I) := rfl
theorem r_X6_readPair_2 : co_X6_readPair[2]? = some ((4, .iconst 4, 0, 0, 0, 0, 4, 0, []) : xm_I) := rfl
theorem r_X6_readPair_3 : co_X6_readPair[3]? = some ((5, .if_icmp .lt 10, 0, 0, 9, 0, 0, 0, []) : xm_I) := rfl
theorem r_X6_readPair_4 : co_X6_readPair[4]? = some ((8, .aload_n 0, 0, 0, 0, 0, 0, 0, []) : xm_I) := rfl
theorem r_X6_readPair_5 : co_X6_readPair[5]? = some ((9, .iconst 3, 0, 0, 0, 0, 3, 0, []) : xm_I) := rfl
theorem r_X6_readPair_6 : co_X6_readPair[6]? = some ((10, .iload_n 2, 0, 0, 0, 0, 0, 0, []) : xm_I) := rfl
theorem r_X6_readPair_7 : co_X6_readPair[7]? = some ((11, .invokevirtual 42, 619, 21, 3, 5, 0, 0, []) : xm_I) := rfl
theorem r_X6_readPair_8 : co_X6_readPair[8]? = some ((14, .return_, 0, 0, 0, 0, 0, 0, []) : xm_I) := rfl
theorem r_X6_readPair_9 : co_X6_readPair[9]? = some ((15, .aload_n 1, 0, 0, 0, 0, 0, 0, []) : xm_I) := rfl
theorem r_X6_readPair_10 : co_X6_readPair[10]? = some ((16, .getfield 159, 257, 0, 16, 2, 0, 0, []) : xm_I) := rfl
theorem r_X6_readPair_11 : co_X6_readPair[11]? = some ((19, .aload_n 1, 0, 0, 0, 0, 0, 0, []) : xm_I) := rfl
theorem r_X6_readPair_12 : co_X6_readPair[12]? = some ((20, .getfield 156, 240, 0, 10, 0, 0, 0, []) : xm_I) := rfl
theorem r_X6_readPair_13 : co_X6_readPair[13]? = some ((23, .aload_n 0, 0, 0, 0, 0, 0, 0, []) : xm_I) := rfl
theorem r_X6_readPair_14 : co_X6_readPair[14]? = some ((24, .iconst 1, 0, 0, 0, 0, 1, 0, []) : xm_I) := rfl
theorem r_X6_readPair_15 : co_X6_readPair[15]? = some ((25, .bipush 99, 0, 0, 0, 0, 99, 0, []) : xm_I) := rfl
theorem r_X6_readPair_16 : co_X6_readPair[16]? = some ((27, .invokevirtual 54, 624, 22, 3, 5, 0, 0, []) : xm_I) := rfl
theorem r_X6_readPair_17 : co_X6_readPair[17]? = some ((30, .iastore, 0, 0, 0, 0, 0, 0, []) : xm_I) := rfl
theorem r_X6_readPair_18 : co_X6_readPair[18]? = some ((31, .aload_n 0, 0, 0, 0, 0, 0, 0, []) : xm_I) := rfl
theorem r_X6_readPair_19 : co_X6_readPair[19]? = some ((32, .ldc 162, 14, 0, 1028, 1, 0, 0, []) : xm_I) := rfl
theorem r_X6_readPair_20 : co_X6_readPair[20]? = some ((34, .invokevirtual 48, 559, 13, 2, 5, 0, 0, []) : xm_I) := rfl
theorem r_X6_readPair_21 : co_X6_readPair[21]? = some ((37, .aload_n 1, 0, 0, 0, 0, 0, 0, []) : xm_I) := rfl
theorem r_X6_readPair_22 : co_X6_readPair[22]? = some ((38, .getfield 164, 259, 0, 17, 2, 0, 0, []) : xm_I) := rfl
theorem r_X6_readPair_23 : co_X6_readPair[23]? = some ((41, .aload_n 1, 0, 0, 0, 0, 0, 0, []) : xm_I) := rfl
theorem r_X6_readPair_24 : co_X6_readPair[24]? = some ((42, .getfield 156, 240, 0, 10, 0, 0, 0, []) : xm_I) := rfl
theorem r_X6_readPair_25 : co_X6_readPair[25]? = some ((45, .aload_n 0, 0, 0, 0, 0, 0, 0, []) : xm_I) := rfl
theorem r_X6_readPair_26 : co_X6_readPair[26]? = some ((46, .iconst 0, 0, 0, 0, 0, 0, 0, []) : xm_I) := rfl
theorem r_X6_readPair_27 : co_X6_readPair[27]? = some ((47, .sipush 999, 0, 0, 0, 0, 999, 0, []) : xm_I) := rfl
theorem r_X6_readPair_28 : co_X6_readPair[28]? = some ((50, .invokevirtual 54, 624, 22, 3, 5, 0, 0, []) : xm_I) := rfl
theorem r_X6_readPair_29 : co_X6_readPair[29]? = some ((53, .iastore, 0, 0, 0, 0, 0, 0, []) : xm_I) := rfl
theorem r_X6_readPair_30 : co_X6_readPair[30]? = some ((54, .aload_n 1, 0, 0, 0, 0, 0, 0, []) : xm_I) := rfl
theorem r_X6_readPair_31 : co_X6_readPair[31]? = some ((55, .dup, 0, 0, 0, 0, 0, 0, []) : xm_I) := rfl
theorem r_X6_readPair_32 : co_X6_readPair[32]? = some ((56, .getfield 156, 240, 0, 10, 0, 0, 0, []) : xm_I) := rfl
theorem r_X6_readPair_33 : co_X6_readPair[33]? = some ((59, .iconst 1, 0, 0, 0, 0, 1, 0, []) : xm_I) := rfl
theorem r_X6_readPair_34 : co_X6_readPair[34]? = some ((60, .iadd, 0, 0, 0, 0, 0, 0, []) : xm_I) := rfl
theorem r_X6_readPair_35 : co_X6_readPair[35]? = some ((61, .putfield 156, 240, 0, 10, 0, 0, 0, []) : xm_I) := rfl
theorem r_X6_readPair_36 : co_X6_readPair[36]? = some ((64, .return_, 0, 0, 0, 0, 0, 0, []) : xm_I) := rfl
theorem p_X6_readPair_0_0 {X : xm_X} {P : List xm_M} {d : Nat} {h : xm_H} {l0 : Nat} {l1 : Nat} {l2 : Int32} {v0 : Nat} {h1 : xm_H} {r1 : Int32} {n2 : Nat} {h3 : xm_H} {v4 : Nat} {h5 : xm_H} {r5 : Int32} {n6 : Nat} (q0 : X.1[l1]? = some (.inr 0)) (q1 : h.1 l1 10 < (4 : Int32)) (q2 : h.2.2 l1 16 = some v0) (q3 : xm_V X P d 22 [.ref l0, .int (1 : Int32), .int (99 : Int32)] h (some (.int r1)) h1) (q4 : X.1[l0]? = some (.inr 5)) (q5 : X.1[v0]? = some (.inl (0, n2))) (q6 : ¬ (h.1 l1 10 < 0 ∨ n2 ≤ (h.1 l1 10).toNatClampNeg)) (q7 : xm_V X P d 13 [.ref l0, .ref 1028] (xm_si h1 v0 ((h.1 l1 10).toNatClampNeg) r1) none h3) (q8 : h3.2.2 l1 17 = some v4) (q9 : xm_V X P d 22 [.ref l0, .int (0 : Int32), .int (999 : Int32)] h3 (some (.int r5)) h5) (q10 : X.1[v4]? = some (.inl (0, n6))) (q11 : ¬ (h3.1 l1 10 < 0 ∨ n6 ≤ (h3.1 l1 10).toNatClampNeg)) : xm_E X P d co_X6_readPair 0 [some (.ref l0), some (.ref l1), some (.int l2)] [] h none (xm_si (xm_si h5 v4 ((h3.1 l1 10).toNatClampNeg) r5) l1 10 (((xm_si h5 v4 ((h3.1 l1 10).toNatClampNeg) r5).1 l1 10) + (1 : Int32))) := by
  refine xm_E_s r_X6_readPair_0 rfl rfl ?_
  refine xm_E_s r_X6_readPair_1 rfl (xm_T_gi rfl q0 rfl (Or.inl rfl)) ?_
  refine xm_E_s r_X6_readPair_2 rfl rfl ?_
  refine xm_E_s r_X6_readPair_3 rfl rfl ?_
  refine xm_E_t q1 ?_
  refine xm_E_s r_X6_readPair_9 rfl rfl ?_
  refine xm_E_s r_X6_readPair_10 rfl (xm_T_gr rfl q0 rfl rfl q2) ?_
  refine xm_E_s r_X6_readPair_11 rfl rfl ?_
  refine xm_E_s r_X6_readPair_12 rfl (xm_T_gi rfl q0 rfl (Or.inl rfl)) ?_
  refine xm_E_s r_X6_readPair_13 rfl rfl ?_
  refine xm_E_s r_X6_readPair_14 rfl rfl ?_
  refine xm_E_s r_X6_readPair_15 rfl rfl ?_
  refine xm_E_cv [.ref l0, .int (1 : Int32), .int (99 : Int32)] [.int (h.1 l1 10), .ref v0] r_X6_readPair_16 rfl rfl (Nat.le_of_ble_eq_true rfl) (xm_rc q4 (by decide)) rfl q3 ?_
  refine xm_E_s r_X6_readPair_17 rfl (xm_T_asi rfl q5 q6) ?_
  refine xm_E_s r_X6_readPair_18 rfl rfl ?_
  refine xm_E_s r_X6_readPair_19 rfl rfl ?_
  refine xm_E_cv [.ref l0, .ref 1028] [] r_X6_readPair_20 rfl rfl (Nat.le_of_ble_eq_true rfl) (xm_rc q4 (by decide)) rfl q7 ?_
  refine xm_E_s r_X6_readPair_21 rfl rfl ?_
  refine xm_E_s r_X6_readPair_22 rfl (xm_T_gr rfl q0 rfl rfl q8) ?_
  refine xm_E_s r_X6_readPair_23 rfl rfl ?_
  refine xm_E_s r_X6_readPair_24 rfl (xm_T_gi rfl q0 rfl (Or.inl rfl)) ?_
  refine xm_E_s r_X6_readPair_25 rfl rfl ?_
  refine xm_E_s r_X6_readPair_26 rfl rfl ?_
  refine xm_E_s r_X6_readPair_27 rfl rfl ?_
  refine xm_E_cv [.ref l0, .int (0 : Int32), .int (999 : Int32)] [.int (h3.1 l1 10), .ref v4] r_X6_readPair_28 rfl rfl (Nat.le_of_ble_eq_true rfl) (xm_rc q4 (by decide)) rfl q9 ?_
  refine xm_E_s r_X6_readPair_29 rfl (xm_T_asi rfl q10 q11) ?_
  refine xm_E_s r_X6_readPair_30 rfl rfl ?_
  refine xm_E_s r_X6_readPair_31 rfl rfl ?_
  refine xm_E_s r_X6_readPair_32 rfl (xm_T_gi rfl q0 rfl (Or.inl rfl)) ?_
  refine xm_E_s r_X6_readPair_33 rfl rfl ?_
  refine xm_E_s r_X6_readPair_34 rfl rfl ?_
  refine xm_E_s r_X6_readPair_35 rfl (xm_T_pi rfl q0 rfl rfl) ?_
  exact xm_E_ret r_X6_readPair_36 rfl
theorem p_X6_readPair_0_1 {X : xm_X} {P : List xm_M} {d : Nat} {h : xm_H} {l0 : Nat} {l1 : Nat} {l2 : Int32} {h0 : xm_H} (q0 : X.1[l1]? = some (.inr 0)) (q1 : ¬ (h.1 l1 10 < (4 : Int32))) (q2 : xm_V X P d 21 [.ref l0, .int (3 : Int32), .int l2] h none h0) (q3 : X.1[l0]? = some (.inr 5)) : xm_E X P d co_X6_readPair 0 [some (.ref l0), some (.ref l1), some (.int l2)] [] h none h0 := by
  refine xm_E_s r_X6_readPair_0 rfl rfl ?_
  refine xm_E_s r_X6_readPair_1 rfl (xm_T_gi rfl q0 rfl (Or.inl rfl)) ?_
  refine xm_E_s r_X6_readPair_2 rfl rfl ?_
  refine xm_E_s r_X6_readPair_3 rfl rfl ?_
  refine xm_E_f q1 ?_
  refine xm_E_s r_X6_readPair_4 rfl rfl ?_
  refine xm_E_s r_X6_readPair_5 rfl rfl ?_
  refine xm_E_s r_X6_readPair_6 rfl rfl ?_
  refine xm_E_cv [.ref l0, .int (3 : Int32), .int l2] [] r_X6_readPair_7 rfl rfl (Nat.le_of_ble_eq_true rfl) (xm_rc q3 (by decide)) rfl q2 ?_
  exact xm_E_ret r_X6_readPair_8 rfl
theorem r_X6_readPile_0 : co_X6_readPile[0]? = some ((0, .aload_n 1, 0, 0, 0, 0, 0, 0, []) : xm_I) := rfl
theorem r_X6_readPile_1 : co_X6_readPile[1]? = some ((1, .getfield 166, 244, 0, 11, 0, 0, 0, []) : xm_I) := rfl
theorem r_X6_readPile_2 : co_X6_readPile[2]? = some ((4, .bipush 6, 0, 0, 0, 0, 6, 0, []) : xm_I) := rfl
theorem r_X6_readPile_3 : co_X6_readPile[3]? = some ((6, .if_icmp .lt 10, 0, 0, 9, 0, 0, 0, []) : xm_I) := rfl
theorem r_X6_readPile_4 : co_X6_readPile[4]? = some ((9, .aload_n 0, 0, 0, 0, 0, 0, 0, []) : xm_I) := rfl
theorem r_X6_readPile_5 : co_X6_readPile[5]? = some ((10, .iconst 3, 0, 0, 0, 0, 3, 0, []) : xm_I) := rfl
theorem r_X6_readPile_6 : co_X6_readPile[6]? = some ((11, .iload_n 2, 0, 0, 0, 0, 0, 0, []) : xm_I) := rfl
theorem r_X6_readPile_7 : co_X6_readPile[7]? = some ((12, .invokevirtual 42, 619, 21, 3, 5, 0, 0, []) : xm_I) := rfl
theorem r_X6_readPile_8 : co_X6_readPile[8]? = some ((15, .return_, 0, 0, 0, 0, 0, 0, []) : xm_I) := rfl
theorem r_X6_readPile_9 : co_X6_readPile[9]? = some ((16, .aload_n 1, 0, 0, 0, 0, 0, 0, []) : xm_I) := rfl
theorem r_X6_readPile_10 : co_X6_readPile[10]? = some ((17, .getfield 169, 262, 0, 18, 2, 0, 0, []) : xm_I) := rfl
theorem r_X6_readPile_11 : co_X6_readPile[11]? = some ((20, .aload_n 1, 0, 0, 0, 0, 0, 0, []) : xm_I) := rfl
theorem r_X6_readPile_12 : co_X6_readPile[12]? = some ((21, .getfield 166, 244, 0, 11, 0, 0, 0, []) : xm_I) := rfl
theorem r_X6_readPile_13 : co_X6_readPile[13]? = some ((24, .aload_n 0, 0, 0, 0, 0, 0, 0, []) : xm_I) := rfl
theorem r_X6_readPile_14 : co_X6_readPile[14]? = some ((25, .iconst 1, 0, 0, 0, 0, 1, 0, []) : xm_I) := rfl
theorem r_X6_readPile_15 : co_X6_readPile[15]? = some ((26, .bipush 60, 0, 0, 0, 0, 60, 0, []) : xm_I) := rfl
theorem r_X6_readPile_16 : co_X6_readPile[16]? = some ((28, .invokevirtual 54, 624, 22, 3, 5, 0, 0, []) : xm_I) := rfl
theorem r_X6_readPile_17 : co_X6_readPile[17]? = some ((31, .iastore, 0, 0, 0, 0, 0, 0, []) : xm_I) := rfl
theorem r_X6_readPile_18 : co_X6_readPile[18]? = some ((32, .aload_n 1, 0, 0, 0, 0, 0, 0, []) : xm_I) := rfl
theorem r_X6_readPile_19 : co_X6_readPile[19]? = some ((33, .dup, 0, 0, 0, 0, 0, 0, []) : xm_I) := rfl
theorem r_X6_readPile_20 : co_X6_readPile[20]? = some ((34, .getfield 166, 244, 0, 11, 0, 0, 0, []) : xm_I) := rfl
theorem r_X6_readPile_21 : co_X6_readPile[21]? = some ((37, .iconst 1, 0, 0, 0, 0, 1, 0, []) : xm_I) := rfl
theorem r_X6_readPile_22 : co_X6_readPile[22]? = some ((38, .iadd, 0, 0, 0, 0, 0, 0, []) : xm_I) := rfl
theorem r_X6_readPile_23 : co_X6_readPile[23]? = some ((39, .putfield 166, 244, 0, 11, 0, 0, 0, []) : xm_I) := rfl
theorem r_X6_readPile_24 : co_X6_readPile[24]? = some ((42, .return_, 0, 0, 0, 0, 0, 0, []) : xm_I) := rfl
theorem p_X6_readPile_0_0 {X : xm_X} {P : List xm_M} {d : Nat} {h : xm_H} {l0 : Nat} {l1 : Nat} {l2 : Int32} {v0 : Nat} {h1 : xm_H} {r1 : Int32} {n2 : Nat} (q0 : X.1[l1]? = some (.inr 0)) (q1 : h.1 l1 11 < (6 : Int32)) (q2 : h.2.2 l1 18 = some v0) (q3 : xm_V X P d 22 [.ref l0, .int (1 : Int32), .int (60 : Int32)] h (some (.int r1)) h1) (q4 : X.1[l0]? = some (.inr 5)) (q5 : X.1[v0]? = some (.inl (0, n2))) (q6 : ¬ (h.1 l1 11 < 0 ∨ n2 ≤ (h.1 l1 11).toNatClampNeg)) : xm_E X P d co_X6_readPile 0 [some (.ref l0), some (.ref l1), some (.int l2)] [] h none (xm_si (xm_si h1 v0 ((h.1 l1 11).toNatClampNeg) r1) l1 11 (((xm_si h1 v0 ((h.1 l1 11).toNatClampNeg) r1).1 l1 11) + (1 : Int32))) := by
  refine xm_E_s r_X6_readPile_0 rfl rfl ?_
  refine xm_E_s r_X6_readPile_1 rfl (xm_T_gi rfl q0 rfl (Or.inl rfl)) ?_
  refine xm_E_s r_X6_readPile_2 rfl rfl ?_
  refine xm_E_s r_X6_readPile_3 rfl rfl ?_
  refine xm_E_t q1 ?_
  refine xm_E_s r_X6_readPile_9 rfl rfl ?_
  refine xm_E_s r_X6_readPile_10 rfl (xm_T_gr rfl q0 rfl rfl q2) ?_
  refine xm_E_s r_X6_readPile_11 rfl rfl ?_
  refine xm_E_s r_X6_readPile_12 rfl (xm_T_gi rfl q0 rfl (Or.inl rfl)) ?_
  refine xm_E_s r_X6_readPile_13 rfl rfl ?_
  refine xm_E_s r_X6_readPile_14 rfl rfl ?_
  refine xm_E_s r_X6_readPile_15 rfl rfl ?_
  refine xm_E_cv [.ref l0, .int (1 : Int32), .int (60 : Int32)] [.int (h.1 l1 11), .ref v0] r_X6_readPile_16 rfl rfl (Nat.le_of_ble_eq_true rfl) (xm_rc q4 (by decide)) rfl q3 ?_
  refine xm_E_s r_X6_readPile_17 rfl (xm_T_asi rfl q5 q6) ?_
  refine xm_E_s r_X6_readPile_18 rfl rfl ?_
  refine xm_E_s r_X6_readPile_19 rfl rfl ?_
  refine xm_E_s r_X6_readPile_20 rfl (xm_T_gi rfl q0 rfl (Or.inl rfl)) ?_
  refine xm_E_s r_X6_readPile_21 rfl rfl ?_
  refine xm_E_s r_X6_readPile_22 rfl rfl ?_
  refine xm_E_s r_X6_readPile_23 rfl (xm_T_pi rfl q0 rfl rfl) ?_
  exact xm_E_ret r_X6_readPile_24 rfl
theorem p_X6_readPile_0_1 {X : xm_X} {P : List xm_M} {d : Nat} {h : xm_H} {l0 : Nat} {l1 : Nat} {l2 : Int32} {h0 : xm_H} (q0 : X.1[l1]? = some (.inr 0)) (q1 : ¬ (h.1 l1 11 < (6 : Int32))) (q2 : xm_V X P d 21 [.ref l0, .int (3 : Int32), .int l2] h none h0) (q3 : X.1[l0]? = some (.inr 5)) : xm_E X P d co_X6_readPile 0 [some (.ref l0), some (.ref l1), some (.int l2)] [] h none h0 := by
  refine xm_E_s r_X6_readPile_0 rfl rfl ?_
  refine xm_E_s r_X6_readPile_1 rfl (xm_T_gi rfl q0 rfl (Or.inl rfl)) ?_
  refine xm_E_s r_X6_readPile_2 rfl rfl ?_
  refine xm_E_s r_X6_readPile_3 rfl rfl ?_
  refine xm_E_f q1 ?_
  refine xm_E_s r_X6_readPile_4 rfl rfl ?_
  refine xm_E_s r_X6_readPile_5 rfl rfl ?_
  refine xm_E_s r_X6_readPile_6 rfl rfl ?_
  refine xm_E_cv [.ref l0, .int (3 : Int32), .int l2] [] r_X6_readPile_7 rfl rfl (Nat.le_of_ble_eq_true rfl) (xm_rc q3 (by decide)) rfl q2 ?_
  exact xm_E_ret r_X6_readPile_8 rfl
theorem r_X6_endLine_0 : co_X6_endLine[0]? = some ((0, .aload_n 0, 0, 0, 0, 0, 0, 0, []) : xm_I) := rfl
theorem r_X6_endLine_1 : co_X6_endLine[1]? = some ((1, .getfield 31, 153, 5, 6, 0, 0, 0, []) : xm_I) := rfl
theorem r_X6_endLine_2 : co_X6_endLine[2]? = some ((4, .iconst 3, 0, 0, 0, 0, 3, 0, []) : xm_I) := rfl
theorem r_X6_endLine_3 : co_X6_endLine[3]? = some ((5, .if_icmp .ne 20, 0, 0, 13, 0, 0, 0, []) : xm_I) := rfl
theorem r_X6_endLine_4 : co_X6_endLine[4]? = some ((8, .aload_n 0, 0, 0, 0, 0, 0, 0, []) : xm_I) := rfl
theorem r_X6_endLine_5 : co_X6_endLine[5]? = some ((9, .invokevirtual 28, 540, 8, 1, 5, 0, 0, []) : xm_I) := rfl
theorem r_X6_endLine_6 : co_X6_endLine[6]? = some ((12, .aload_n 1, 0, 0, 0, 0, 0, 0, []) : xm_I) := rfl
theorem r_X6_endLine_7 : co_X6_endLine[7]? = some ((13, .dup, 0, 0, 0, 0, 0, 0, []) : xm_I) := rfl
theorem r_X6_endLine_8 : co_X6_endLine[8]? = some ((14, .getfield 34, 209, 0, 0, 0, 0, 0, []) : xm_I) := rfl
theorem r_X6_endLine_9 : co_X6_endLine[9]? = some ((17, .iconst 1, 0, 0, 0, 0, 1, 0, []) : xm_I) := rfl
theorem r_X6_endLine_10 : co_X6_endLine[10]? = some ((18, .iadd, 0, 0, 0, 0, 0, 0, []) : xm_I) := rfl
theorem r_X6_endLine_11 : co_X6_endLine[11]? = some ((19, .putfield 34, 209, 0, 0, 0, 0, 0, []) : xm_I) := rfl
theorem r_X6_endLine_12 : co_X6_endLine[12]? = some ((22, .goto 12, 0, 0, 18, 0, 0, 0, []) : xm_I) := rfl
theorem r_X6_endLine_13 : co_X6_endLine[13]? = some ((25, .aload_n 0, 0, 0, 0, 0, 0, 0, []) : xm_I) := rfl
theorem r_X6_endLine_14 : co_X6_endLine[14]? = some ((26, .iconst 1, 0, 0, 0, 0, 1, 0, []) : xm_I) := rfl
theorem r_X6_endLine_15 : co_X6_endLine[15]? = some ((27, .aload_n 0, 0, 0, 0, 0, 0, 0, []) : xm_I) := rfl
theorem r_X6_endLine_16 : co_X6_endLine[16]? = some ((28, .getfield 39, 151, 5, 4, 0, 0, 0, []) : xm_I) := rfl
theorem r_X6_endLine_17 : co_X6_endLine[17]? = some ((31, .invokevirtual 42, 619, 21, 3, 5, 0, 0, []) : xm_I) := rfl
theorem r_X6_endLine_18 : co_X6_endLine[18]? = some ((34, .return_, 0, 0, 0, 0, 0, 0, []) : xm_I) := rfl
theorem p_X6_endLine_0_0 {X : xm_X} {P : List xm_M} {d : Nat} {h : xm_H} {l0 : Nat} {l1 : Nat} {h0 : xm_H} (q0 : X.1[l0]? = some (.inr 5)) (q1 : h.1 l0 6 = (3 : Int32)) (q2 : xm_V X P d 8 [.ref l0] h none h0) (q3 : X.1[l1]? = some (.inr 0)) : xm_E X P d co_X6_endLine 0 [some (.ref l0), some (.ref l1)] [] h none (xm_si h0 l1 0 ((h0.1 l1 0) + (1 : Int32))) := by
  refine xm_E_s r_X6_endLine_0 rfl rfl ?_
  refine xm_E_s r_X6_endLine_1 rfl (xm_T_gi rfl q0 rfl (Or.inl rfl)) ?_
  refine xm_E_s r_X6_endLine_2 rfl rfl ?_
  refine xm_E_s r_X6_endLine_3 rfl rfl ?_
  refine xm_E_t q1 ?_
  refine xm_E_s r_X6_endLine_4 rfl rfl ?_
  refine xm_E_cv [.ref l0] [] r_X6_endLine_5 rfl rfl (Nat.le_of_ble_eq_true rfl) (xm_rc q0 (by decide)) rfl q2 ?_
  refine xm_E_s r_X6_endLine_6 rfl rfl ?_
  refine xm_E_s r_X6_endLine_7 rfl rfl ?_
  refine xm_E_s r_X6_endLine_8 rfl (xm_T_gi rfl q3 rfl (Or.inl rfl)) ?_
  refine xm_E_s r_X6_endLine_9 rfl rfl ?_
  refine xm_E_s r_X6_endLine_10 rfl rfl ?_
  refine xm_E_s r_X6_endLine_11 rfl (xm_T_pi rfl q3 rfl rfl) ?_
  refine xm_E_s r_X6_endLine_12 rfl rfl ?_
  exact xm_E_ret r_X6_endLine_18 rfl
theorem p_X6_endLine_0_1 {X : xm_X} {P : List xm_M} {d : Nat} {h : xm_H} {l0 : Nat} {l1 : Nat} {h0 : xm_H} (q0 : X.1[l0]? = some (.inr 5)) (q1 : ¬ (h.1 l0 6 = (3 : Int32))) (q2 : xm_V X P d 21 [.ref l0, .int (1 : Int32), .int (h.1 l0 4)] h none h0) : xm_E X P d co_X6_endLine 0 [some (.ref l0), some (.ref l1)] [] h none h0 := by
  refine xm_E_s r_X6_endLine_0 rfl rfl ?_
  refine xm_E_s r_X6_endLine_1 rfl (xm_T_gi rfl q0 rfl (Or.inl rfl)) ?_
  refine xm_E_s r_X6_endLine_2 rfl rfl ?_
  refine xm_E_s r_X6_endLine_3 rfl rfl ?_
  refine xm_E_f q1 ?_
  refine xm_E_s r_X6_endLine_13 rfl rfl ?_
  refine xm_E_s r_X6_endLine_14 rfl rfl ?_
  refine xm_E_s r_X6_endLine_15 rfl rfl ?_
  refine xm_E_s r_X6_endLine_16 rfl (xm_T_gi rfl q0 rfl (Or.inl rfl)) ?_
  refine xm_E_cv [.ref l0, .int (1 : Int32), .int (h.1 l0 4)] [] r_X6_endLine_17 rfl rfl (Nat.le_of_ble_eq_true rfl) (xm_rc q0 (by decide)) rfl q2 ?_
  exact xm_E_ret r_X6_endLine_18 rfl
theorem r_X9_begin_0 : co_X9_begin[0]? = some ((0, .aload_n 0, 0, 0, 0, 0, 0, 0, []) : xm_I) := rfl
theorem r_X9_begin_1 : co_X9_begin[1]? = some ((1, .iconst 0, 0, 0, 0, 0, 0, 0, []) : xm_I) := rfl
theorem r_X9_begin_2 : co_X9_begin[2]? = some ((2, .putfield 26, 307, 8, 2, 0, 0, 0, []) : xm_I) := rfl
theorem r_X9_begin_3 : co_X9_begin[3]? = some ((5, .aload_n 0, 0, 0, 0, 0, 0, 0, []) : xm_I) := rfl
theorem r_X9_begin_4 : co_X9_begin[4]? = some ((6, .aload_n 0, 0, 0, 0, 0, 0, 0, []) : xm_I) := rfl
theorem r_X9_begin_5 : co_X9_begin[5]? = some ((7, .getfield 12, 303, 8, 0, 2, 0, 0, []) : xm_I) := rfl
theorem r_X9_begin_6 : co_X9_begin[6]? = some ((10, .invokevirtual 29, 681, 32, 1, 0, 0, 0, []) : xm_I) := rfl
theorem r_X9_begin_7 : co_X9_begin[7]? = some ((13, .putfield 33, 310, 8, 3, 0, 0, 0, []) : xm_I) := rfl
theorem r_X9_begin_8 : co_X9_begin[8]? = some ((16, .aload_n 0, 0, 0, 0, 0, 0, 0, []) : xm_I) := rfl
theorem r_X9_begin_9 : co_X9_begin[9]? = some ((17, .iconst 0, 0, 0, 0, 0, 0, 0, []) : xm_I) := rfl
theorem r_X9_begin_10 : co_X9_begin[10]? = some ((18, .putfield 36, 313, 8, 4, 0, 0, 0, []) : xm_I) := rfl
theorem r_X9_begin_11 : co_X9_begin[11]? = some ((21, .return_, 0, 0, 0, 0, 0, 0, []) : xm_I) := rfl
theorem p_X9_begin_0_0 {X : xm_X} {P : List xm_M} {d : Nat} {h : xm_H} {l0 : Nat} {v0 : Nat} {h1 : xm_H} {r1 : Int32} (q0 : X.1[l0]? = some (.inr 8)) (q1 : (xm_si h l0 2 (0 : Int32)).2.2 l0 0 = some v0) (q2 : xm_V X P d 32 [.ref v0] (xm_si h l0 2 (0 : Int32)) (some (.int r1)) h1) (q3 : X.1[v0]? = some (.inr 0)) : xm_E X P d co_X9_begin 0 [some (.ref l0)] [] h none (xm_si (xm_si h1 l0 3 r1) l0 4 (0 : Int32)) := by
  refine xm_E_s r_X9_begin_0 rfl rfl ?_
  refine xm_E_s r_X9_begin_1 rfl rfl ?_
  refine xm_E_s r_X9_begin_2 rfl (xm_T_pi rfl q0 rfl rfl) ?_
  refine xm_E_s r_X9_begin_3 rfl rfl ?_
  refine xm_E_s r_X9_begin_4 rfl rfl ?_
  refine xm_E_s r_X9_begin_5 rfl (xm_T_gr rfl q0 rfl rfl q1) ?_
  refine xm_E_cv [.ref v0] [.ref l0] r_X9_begin_6 rfl rfl (Nat.le_of_ble_eq_true rfl) (xm_rc q3 (by decide)) rfl q2 ?_
  refine xm_E_s r_X9_begin_7 rfl (xm_T_pi rfl q0 rfl rfl) ?_
  refine xm_E_s r_X9_begin_8 rfl rfl ?_
  refine xm_E_s r_X9_begin_9 rfl rfl ?_
  refine xm_E_s r_X9_begin_10 rfl (xm_T_pi rfl q0 rfl rfl) ?_
  exact xm_E_ret r_X9_begin_11 rfl
theorem r_X0_firstState_0 : co_X0_firstState[0]? = some ((0, .aload_n 0, 0, 0, 0, 0, 0, 0, []) : xm_I) := rfl
theorem r_X0_firstState_1 : co_X0_firstState[1]? = some ((1, .getfield 41, 210, 0, 1, 0, 0, 0, []) : xm_I) := rfl
theorem r_X0_firstState_2 : co_X0_firstState[2]? = some ((4, .aload_n 0, 0, 0, 0, 0, 0, 0, []) : xm_I) := rfl
theorem r_X0_firstState_3 : co_X0_firstState[3]? = some ((5, .getfield 44, 212, 0, 2, 0, 0, 0, []) : xm_I) := rfl
theorem r_X0_firstState_4 : co_X0_firstState[4]? = some ((8, .iconst 0, 0, 0, 0, 0, 0, 0, []) : xm_I) := rfl
theorem r_X0_firstState_5 : co_X0_firstState[5]? = some ((9, .iconst 0, 0, 0, 0, 0, 0, 0, []) : xm_I) := rfl
theorem r_X0_firstState_6 : co_X0_firstState[6]? = some ((10, .iconst 0, 0, 0, 0, 0, 0, 0, []) : xm_I) := rfl
theorem r_X0_firstState_7 : co_X0_firstState[7]? = some ((11, .invokestatic 103, 685, 33, 5, 0, 0, 0, []) : xm_I) := rfl
theorem r_X0_firstState_8 : co_X0_firstState[8]? = some ((14, .ireturn, 0, 0, 0, 0, 0, 0, []) : xm_I) := rfl
theorem p_X0_firstState_0_0 {X : xm_X} {P : List xm_M} {d : Nat} {h : xm_H} {l0 : Nat} {h0 : xm_H} {r0 : Int32} (q0 : X.1[l0]? = some (.inr 0)) (q1 : xm_V X P d 33 [.int (h.1 l0 1), .int (h.1 l0 2), .int (0 : Int32), .int (0 : Int32), .int (0 : Int32)] h (some (.int r0)) h0) : xm_E X P d co_X0_firstState 0 [some (.ref l0)] [] h (some (.int r0)) h0 := by
  refine xm_E_s r_X0_firstState_0 rfl rfl ?_
  refine xm_E_s r_X0_firstState_1 rfl (xm_T_gi rfl q0 rfl (Or.inl rfl)) ?_
  refine xm_E_s r_X0_firstState_2 rfl rfl ?_
  refine xm_E_s r_X0_firstState_3 rfl (xm_T_gi rfl q0 rfl (Or.inl rfl)) ?_
  refine xm_E_s r_X0_firstState_4 rfl rfl ?_
  refine xm_E_s r_X0_firstState_5 rfl rfl ?_
  refine xm_E_s r_X0_firstState_6 rfl rfl ?_
  refine xm_E_cs [.int (h.1 l0 1), .int (h.1 l0 2), .int (0 : Int32), .int (0 : Int32), .int (0 : Int32)] [] r_X0_firstState_7 rfl rfl rfl (Nat.le_of_ble_eq_true rfl) rfl q1 ?_
  exact xm_E_iret r_X0_firstState_8 rfl rfl
theorem r_X5_pack_0 : co_X5_pack[0]? = some ((0, .iload_n 0, 0, 0, 0, 0, 0, 0, []) : xm_I) := rfl
theorem r_X5_pack_1 : co_X5_pack[1]? = some ((1, .iload_n 1, 0, 0, 0, 0, 0, 0, []) : xm_I) := rfl
theorem r_X5_pack_2 : co_X5_pack[2]? = some ((2, .bipush 6, 0, 0, 0, 0, 6, 0, []) : xm_I) := rfl
theorem r_X5_pack_3 : co_X5_pack[3]? = some ((4, .ishl, 0, 0, 0, 0, 0, 0, []) : xm_I) := rfl
theorem r_X5_pack_4 : co_X5_pack[4]? = some ((5, .ior, 0, 0, 0, 0, 0, 0, []) : xm_I) := rfl
theorem r_X5_pack_5 : co_X5_pack[5]? = some ((6, .iload_n 2, 0, 0, 0, 0, 0, 0, []) : xm_I) := rfl
theorem r_X5_pack_6 : co_X5_pack[6]? = some ((7, .bipush 12, 0, 0, 0, 0, 12, 0, []) : xm_I) := rfl
theorem r_X5_pack_7 : co_X5_pack[7]? = some ((9, .ishl, 0, 0, 0, 0, 0, 0, []) : xm_I) := rfl
theorem r_X5_pack_8 : co_X5_pack[8]? = some ((10, .ior, 0, 0, 0, 0, 0, 0, []) : xm_I) := rfl
theorem r_X5_pack_9 : co_X5_pack[9]? = some ((11, .iload_n 3, 0, 0, 0, 0, 0, 0, []) : xm_I) := rfl
theorem r_X5_pack_10 : co_X5_pack[10]? = some ((12, .bipush 15, 0, 0, 0, 0, 15, 0, []) : xm_I) := rfl
theorem r_X5_pack_11 : co_X5_pack[11]? = some ((14, .ishl, 0, 0, 0, 0, 0, 0, []) : xm_I) := rfl
theorem r_X5_pack_12 : co_X5_pack[12]? = some ((15, .ior, 0, 0, 0, 0, 0, 0, []) : xm_I) := rfl
theorem r_X5_pack_13 : co_X5_pack[13]? = some ((16, .iload 4, 0, 0, 0, 0, 0, 0, []) : xm_I) := rfl
theorem r_X5_pack_14 : co_X5_pack[14]? = some ((18, .iconst 2, 0, 0, 0, 0, 2, 0, []) : xm_I) := rfl
theorem r_X5_pack_15 : co_X5_pack[15]? = some ((19, .iadd, 0, 0, 0, 0, 0, 0, []) : xm_I) := rfl
theorem r_X5_pack_16 : co_X5_pack[16]? = some ((20, .bipush 16, 0, 0, 0, 0, 16, 0, []) : xm_I) := rfl
theorem r_X5_pack_17 : co_X5_pack[17]? = some ((22, .ishl, 0, 0, 0, 0, 0, 0, []) : xm_I) := rfl
theorem r_X5_pack_18 : co_X5_pack[18]? = some ((23, .ior, 0, 0, 0, 0, 0, 0, []) : xm_I) := rfl
theorem r_X5_pack_19 : co_X5_pack[19]? = some ((24, .ireturn, 0, 0, 0, 0, 0, 0, []) : xm_I) := rfl
theorem p_X5_pack_0_0 {X : xm_X} {P : List xm_M} {d : Nat} {h : xm_H} {l0 : Int32} {l1 : Int32} {l2 : Int32} {l3 : Int32} {l4 : Int32}  : xm_E X P d co_X5_pack 0 [some (.int l0), some (.int l1), some (.int l2), some (.int l3), some (.int l4)] [] h (some (.int ((((l0 ||| (l1 <<< ((6 : Int32) &&& 31))) ||| (l2 <<< ((12 : Int32) &&& 31))) ||| (l3 <<< ((15 : Int32) &&& 31))) ||| ((l4 + (2 : Int32)) <<< ((16 : Int32) &&& 31))))) h := by
  refine xm_E_s r_X5_pack_0 rfl rfl ?_
  refine xm_E_s r_X5_pack_1 rfl rfl ?_
  refine xm_E_s r_X5_pack_2 rfl rfl ?_
  refine xm_E_s r_X5_pack_3 rfl rfl ?_
  refine xm_E_s r_X5_pack_4 rfl rfl ?_
  refine xm_E_s r_X5_pack_5 rfl rfl ?_
  refine xm_E_s r_X5_pack_6 rfl rfl ?_
  refine xm_E_s r_X5_pack_7 rfl rfl ?_
  refine xm_E_s r_X5_pack_8 rfl rfl ?_
  refine xm_E_s r_X5_pack_9 rfl rfl ?_
  refine xm_E_s r_X5_pack_10 rfl rfl ?_
  refine xm_E_s r_X5_pack_11 rfl rfl ?_
  refine xm_E_s r_X5_pack_12 rfl rfl ?_
  refine xm_E_s r_X5_pack_13 rfl rfl ?_
  refine xm_E_s r_X5_pack_14 rfl rfl ?_
  refine xm_E_s r_X5_pack_15 rfl rfl ?_
  refine xm_E_s r_X5_pack_16 rfl rfl ?_
  refine xm_E_s r_X5_pack_17 rfl rfl ?_
  refine xm_E_s r_X5_pack_18 rfl rfl ?_
  exact xm_E_iret r_X5_pack_19 rfl rfl
theorem r_X9_isNone_0 : co_X9_isNone[0]? = some ((0, .aload_n 0, 0, 0, 0, 0, 0, 0, []) : xm_I) := rfl
theorem r_X9_isNone_1 : co_X9_isNone[1]? = some ((1, .getfield 12, 303, 8, 0, 2, 0, 0, []) : xm_I) := rfl
theorem r_X9_isNone_2 : co_X9_isNone[2]? = some ((4, .getfield 22, 207, 0, 0, 0, 0, 0, []) : xm_I) := rfl
theorem r_X9_isNone_3 : co_X9_isNone[3]? = some ((7, .ifCond .ne 7, 0, 0, 6, 0, 0, 0, []) : xm_I) := rfl
theorem r_X9_isNone_4 : co_X9_isNone[4]? = some ((10, .iconst 1, 0, 0, 0, 0, 1, 0, []) : xm_I) := rfl
theorem r_X9_isNone_5 : co_X9_isNone[5]? = some ((11, .goto 4, 0, 0, 7, 0, 0, 0, []) : xm_I) := rfl
theorem r_X9_isNone_6 : co_X9_isNone[6]? = some ((14, .iconst 0, 0, 0, 0, 0, 0, 0, []) : xm_I) := rfl
theorem r_X9_isNone_7 : co_X9_isNone[7]? = some ((15, .ireturn, 0, 0, 0, 3, 0, 0, []) : xm_I) := rfl
theorem p_X9_isNone_0_0 {X : xm_X} {P : List xm_M} {d : Nat} {h : xm_H} {l0 : Nat} {v0 : Nat} (q0 : X.1[l0]? = some (.inr 8)) (q1 : h.2.2 l0 0 = some v0) (q2 : X.1[v0]? = some (.inr 0)) (q3 : h.1 v0 0 = (0 : Int32)) : xm_E X P d co_X9_isNone 0 [some (.ref l0)] [] h (some (.int (1 : Int32))) h := by
  refine xm_E_s r_X9_isNone_0 rfl rfl ?_
  refine xm_E_s r_X9_isNone_1 rfl (xm_T_gr rfl q0 rfl rfl q1) ?_
  refine xm_E_s r_X9_isNone_2 rfl (xm_T_gi rfl q2 rfl (Or.inl rfl)) ?_
  refine xm_E_s r_X9_isNone_3 rfl rfl ?_
  refine xm_E_t q3 ?_
  refine xm_E_s r_X9_isNone_4 rfl rfl ?_
  refine xm_E_s r_X9_isNone_5 rfl rfl ?_
  exact xm_E_iret r_X9_isNone_7 rfl rfl
theorem p_X9_isNone_0_1 {X : xm_X} {P : List xm_M} {d : Nat} {h : xm_H} {l0 : Nat} {v0 : Nat} (q0 : X.1[l0]? = some (.inr 8)) (q1 : h.2.2 l0 0 = some v0) (q2 : X.1[v0]? = some (.inr 0)) (q3 : ¬ (h.1 v0 0 = (0 : Int32))) : xm_E X P d co_X9_isNone 0 [some (.ref l0)] [] h (some (.int (0 : Int32))) h := by
  refine xm_E_s r_X9_isNone_0 rfl rfl ?_
  refine xm_E_s r_X9_isNone_1 rfl (xm_T_gr rfl q0 rfl rfl q1) ?_
  refine xm_E_s r_X9_isNone_2 rfl (xm_T_gi rfl q2 rfl (Or.inl rfl)) ?_
  refine xm_E_s r_X9_isNone_3 rfl rfl ?_
  refine xm_E_f q3 ?_
  refine xm_E_s r_X9_isNone_6 rfl rfl ?_
  exact xm_E_iret r_X9_isNone_7 rfl rfl
theorem r_X5_longOf_0 : co_X5_longOf[0]? = some ((0, .iload_n 0, 0, 0, 0, 0, 0, 0, []) : xm_I) := rfl
theorem r_X5_longOf_1 : co_X5_longOf[1]? = some ((1, .bipush 63, 0, 0, 0, 0, 63, 0, []) : xm_I) := rfl
theorem r_X5_longOf_2 : co_X5_longOf[2]? = some ((3, .iand, 0, 0, 0, 0, 0, 0, []) : xm_I) := rfl
theorem r_X5_longOf_3 : co_X5_longOf[3]? = some ((4, .ireturn, 0, 0, 0, 0, 0, 0, []) : xm_I) := rfl
theorem p_X5_longOf_0_0 {X : xm_X} {P : List xm_M} {d : Nat} {h : xm_H} {l0 : Int32}  : xm_E X P d co_X5_longOf 0 [some (.int l0)] [] h (some (.int (l0 &&& (63 : Int32)))) h := by
  refine xm_E_s r_X5_longOf_0 rfl rfl ?_
  refine xm_E_s r_X5_longOf_1 rfl rfl ?_
  refine xm_E_s r_X5_longOf_2 rfl rfl ?_
  exact xm_E_iret r_X5_longOf_3 rfl rfl
theorem r_X5_wideOf_0 : co_X5_wideOf[0]? = some ((0, .iload_n 0, 0, 0, 0, 0, 0, 0, []) : xm_I) := rfl
theorem r_X5_wideOf_1 : co_X5_wideOf[1]? = some ((1, .bipush 6, 0, 0, 0, 0, 6, 0, []) : xm_I) := rfl
theorem r_X5_wideOf_2 : co_X5_wideOf[2]? = some ((3, .ishr, 0, 0, 0, 0, 0, 0, []) : xm_I) := rfl
theorem r_X5_wideOf_3 : co_X5_wideOf[3]? = some ((4, .bipush 63, 0, 0, 0, 0, 63, 0, []) : xm_I) := rfl
theorem r_X5_wideOf_4 : co_X5_wideOf[4]? = some ((6, .iand, 0, 0, 0, 0, 0, 0, []) : xm_I) := rfl
theorem r_X5_wideOf_5 : co_X5_wideOf[5]? = some ((7, .ireturn, 0, 0, 0, 0, 0, 0, []) : xm_I) := rfl
theorem p_X5_wideOf_0_0 {X : xm_X} {P : List xm_M} {d : Nat} {h : xm_H} {l0 : Int32}  : xm_E X P d co_X5_wideOf 0 [some (.int l0)] [] h (some (.int ((l0 >>> ((6 : Int32) &&& 31)) &&& (63 : Int32)))) h := by
  refine xm_E_s r_X5_wideOf_0 rfl rfl ?_
  refine xm_E_s r_X5_wideOf_1 rfl rfl ?_
  refine xm_E_s r_X5_wideOf_2 rfl rfl ?_
  refine xm_E_s r_X5_wideOf_3 rfl rfl ?_
  refine xm_E_s r_X5_wideOf_4 rfl rfl ?_
  exact xm_E_iret r_X5_wideOf_5 rfl rfl
theorem r_X5_hemOf_0 : co_X5_hemOf[0]? = some ((0, .iload_n 0, 0, 0, 0, 0, 0, 0, []) : xm_I) := rfl
theorem r_X5_hemOf_1 : co_X5_hemOf[1]? = some ((1, .bipush 12, 0, 0, 0, 0, 12, 0, []) : xm_I) := rfl
theorem r_X5_hemOf_2 : co_X5_hemOf[2]? = some ((3, .ishr, 0, 0, 0, 0, 0, 0, []) : xm_I) := rfl
theorem r_X5_hemOf_3 : co_X5_hemOf[3]? = some ((4, .bipush 7, 0, 0, 0, 0, 7, 0, []) : xm_I) := rfl
theorem r_X5_hemOf_4 : co_X5_hemOf[4]? = some ((6, .iand, 0, 0, 0, 0, 0, 0, []) : xm_I) := rfl
theorem r_X5_hemOf_5 : co_X5_hemOf[5]? = some ((7, .ireturn, 0, 0, 0, 0, 0, 0, []) : xm_I) := rfl
theorem p_X5_hemOf_0_0 {X : xm_X} {P : List xm_M} {d : Nat} {h : xm_H} {l0 : Int32}  : xm_E X P d co_X5_hemOf 0 [some (.int l0)] [] h (some (.int ((l0 >>> ((12 : Int32) &&& 31)) &&& (7 : Int32)))) h := by
  refine xm_E_s r_X5_hemOf_0 rfl rfl ?_
  refine xm_E_s r_X5_hemOf_1 rfl rfl ?_
  refine xm_E_s r_X5_hemOf_2 rfl rfl ?_
  refine xm_E_s r_X5_hemOf_3 rfl rfl ?_
  refine xm_E_s r_X5_hemOf_4 rfl rfl ?_
  exact xm_E_iret r_X5_hemOf_5 rfl rfl
theorem r_X5_faceOf_0 : co_X5_faceOf[0]? = some ((0, .iload_n 0, 0, 0, 0, 0, 0, 0, []) : xm_I) := rfl
theorem r_X5_faceOf_1 : co_X5_faceOf[1]? = some ((1, .bipush 15, 0, 0, 0, 0, 15, 0, []) : xm_I) := rfl
theorem r_X5_faceOf_2 : co_X5_faceOf[2]? = some ((3, .ishr, 0, 0, 0, 0, 0, 0, []) : xm_I) := rfl
theorem r_X5_faceOf_3 : co_X5_faceOf[3]? = some ((4, .iconst 1, 0, 0, 0, 0, 1, 0, []) : xm_I) := rfl
theorem r_X5_faceOf_4 : co_X5_faceOf[4]? = some ((5, .iand, 0, 0, 0, 0, 0, 0, []) : xm_I) := rfl
theorem r_X5_faceOf_5 : co_X5_faceOf[5]? = some ((6, .ireturn, 0, 0, 0, 0, 0, 0, []) : xm_I) := rfl
theorem p_X5_faceOf_0_0 {X : xm_X} {P : List xm_M} {d : Nat} {h : xm_H} {l0 : Int32}  : xm_E X P d co_X5_faceOf 0 [some (.int l0)] [] h (some (.int ((l0 >>> ((15 : Int32) &&& 31)) &&& (1 : Int32)))) h := by
  refine xm_E_s r_X5_faceOf_0 rfl rfl ?_
  refine xm_E_s r_X5_faceOf_1 rfl rfl ?_
  refine xm_E_s r_X5_faceOf_2 rfl rfl ?_
  refine xm_E_s r_X5_faceOf_3 rfl rfl ?_
  refine xm_E_s r_X5_faceOf_4 rfl rfl ?_
  exact xm_E_iret r_X5_faceOf_5 rfl rfl
theorem r_X5_twistOf_0 : co_X5_twistOf[0]? = some ((0, .iload_n 0, 0, 0, 0, 0, 0, 0, []) : xm_I) := rfl
theorem r_X5_twistOf_1 : co_X5_twistOf[1]? = some ((1, .bipush 16, 0, 0, 0, 0, 16, 0, []) : xm_I) := rfl
theorem r_X5_twistOf_2 : co_X5_twistOf[2]? = some ((3, .ishr, 0, 0, 0, 0, 0, 0, []) : xm_I) := rfl
theorem r_X5_twistOf_3 : co_X5_twistOf[3]? = some ((4, .bipush 7, 0, 0, 0, 0, 7, 0, []) : xm_I) := rfl
theorem r_X5_twistOf_4 : co_X5_twistOf[4]? = some ((6, .iand, 0, 0, 0, 0, 0, 0, []) : xm_I) := rfl
theorem r_X5_twistOf_5 : co_X5_twistOf[5]? = some ((7, .iconst 2, 0, 0, 0, 0, 2, 0, []) : xm_I) := rfl
theorem r_X5_twistOf_6 : co_X5_twistOf[6]? = some ((8, .isub, 0, 0, 0, 0, 0, 0, []) : xm_I) := rfl
theorem r_X5_twistOf_7 : co_X5_twistOf[7]? = some ((9, .ireturn, 0, 0, 0, 0, 0, 0, []) : xm_I) := rfl
theorem p_X5_twistOf_0_0 {X : xm_X} {P : List xm_M} {d : Nat} {h : xm_H} {l0 : Int32}  : xm_E X P d co_X5_twistOf 0 [some (.int l0)] [] h (some (.int (((l0 >>> ((16 : Int32) &&& 31)) &&& (7 : Int32)) - (2 : Int32)))) h := by
  refine xm_E_s r_X5_twistOf_0 rfl rfl ?_
  refine xm_E_s r_X5_twistOf_1 rfl rfl ?_
  refine xm_E_s r_X5_twistOf_2 rfl rfl ?_
  refine xm_E_s r_X5_twistOf_3 rfl rfl ?_
  refine xm_E_s r_X5_twistOf_4 rfl rfl ?_
  refine xm_E_s r_X5_twistOf_5 rfl rfl ?_
  refine xm_E_s r_X5_twistOf_6 rfl rfl ?_
  exact xm_E_iret r_X5_twistOf_7 rfl rfl
theorem r_X0_layersOf_0 : co_X0_layersOf[0]? = some ((0, .iload_n 1, 0, 0, 0, 0, 0, 0, []) : xm_I) := rfl
theorem r_X0_layersOf_1 : co_X0_layersOf[1]? = some ((1, .invokestatic 109, 723, 38, 1, 0, 0, 0, []) : xm_I) := rfl
theorem r_X0_layersOf_2 : co_X0_layersOf[2]? = some ((4, .iload_n 1, 0, 0, 0, 0, 0, 0, []) : xm_I) := rfl
theorem r_X0_layersOf_3 : co_X0_layersOf[3]? = some ((5, .invokestatic 113, 724, 39, 1, 0, 0, 0, []) : xm_I) := rfl
theorem r_X0_layersOf_4 : co_X0_layersOf[4]? = some ((8, .imul, 0, 0, 0, 0, 0, 0, []) : xm_I) := rfl
theorem r_X0_layersOf_5 : co_X0_layersOf[5]? = some ((9, .istore_n 2, 0, 0, 0, 0, 0, 0, []) : xm_I) := rfl
theorem r_X0_layersOf_6 : co_X0_layersOf[6]? = some ((10, .iload_n 2, 0, 0, 0, 0, 0, 0, []) : xm_I) := rfl
theorem r_X0_layersOf_7 : co_X0_layersOf[7]? = some ((11, .ifCond .gt 7, 0, 0, 10, 0, 0, 0, []) : xm_I) := rfl
theorem r_X0_layersOf_8 : co_X0_layersOf[8]? = some ((14, .iconst 0, 0, 0, 0, 0, 0, 0, []) : xm_I) := rfl
theorem r_X0_layersOf_9 : co_X0_layersOf[9]? = some ((15, .goto 14, 0, 0, 17, 0, 0, 0, []) : xm_I) := rfl
theorem r_X0_layersOf_10 : co_X0_layersOf[10]? = some ((18, .aload_n 0, 0, 0, 0, 0, 0, 0, []) : xm_I) := rfl
theorem r_X0_layersOf_11 : co_X0_layersOf[11]? = some ((19, .getfield 41, 210, 0, 1, 0, 0, 0, []) : xm_I) := rfl
theorem r_X0_layersOf_12 : co_X0_layersOf[12]? = some ((22, .aload_n 0, 0, 0, 0, 0, 0, 0, []) : xm_I) := rfl
theorem r_X0_layersOf_13 : co_X0_layersOf[13]? = some ((23, .getfield 44, 212, 0, 2, 0, 0, 0, []) : xm_I) := rfl
theorem r_X0_layersOf_14 : co_X0_layersOf[14]? = some ((26, .imul, 0, 0, 0, 0, 0, 0, []) : xm_I) := rfl
theorem r_X0_layersOf_15 : co_X0_layersOf[15]? = some ((27, .iload_n 2, 0, 0, 0, 0, 0, 0, []) : xm_I) := rfl
theorem r_X0_layersOf_16 : co_X0_layersOf[16]? = some ((28, .idiv, 0, 0, 0, 0, 0, 0, []) : xm_I) := rfl
theorem r_X0_layersOf_17 : co_X0_layersOf[17]? = some ((29, .ireturn, 0, 0, 0, 0, 0, 0, []) : xm_I) := rfl
theorem p_X0_layersOf_0_0 {X : xm_X} {P : List xm_M} {d : Nat} {h : xm_H} {l0 : Nat} {l1 : Int32} {h0 : xm_H} {r0 : Int32} {h1 : xm_H} {r1 : Int32} (q0 : xm_V X P d 38 [.int l1] h (some (.int r0)) h0) (q1 : xm_V X P d 39 [.int l1] h0 (some (.int r1)) h1) (q2 : (0 : Int32) < r0 * r1) (q3 : X.1[l0]? = some (.inr 0)) (q4 : ¬ (r0 * r1) = 0) : xm_E X P d co_X0_layersOf 0 [some (.ref l0), some (.int l1), none] [] h (some (.int (((h1.1 l0 1) * (h1.1 l0 2)) / (r0 * r1)))) h1 := by
  refine xm_E_s r_X0_layersOf_0 rfl rfl ?_
  refine xm_E_cs [.int l1] [] r_X0_layersOf_1 rfl rfl rfl (Nat.le_of_ble_eq_true rfl) rfl q0 ?_
  refine xm_E_s r_X0_layersOf_2 rfl rfl ?_
  refine xm_E_cs [.int l1] [.int r0] r_X0_layersOf_3 rfl rfl rfl (Nat.le_of_ble_eq_true rfl) rfl q1 ?_
  refine xm_E_s r_X0_layersOf_4 rfl rfl ?_
  refine xm_E_s (ls1 := [some (.ref l0), some (.int l1), some (.int (r0 * r1))]) r_X0_layersOf_5 rfl rfl ?_
  refine xm_E_s r_X0_layersOf_6 rfl rfl ?_
  refine xm_E_s r_X0_layersOf_7 rfl rfl ?_
  refine xm_E_t q2 ?_
  refine xm_E_s r_X0_layersOf_10 rfl rfl ?_
  refine xm_E_s r_X0_layersOf_11 rfl (xm_T_gi rfl q3 rfl (Or.inl rfl)) ?_
  refine xm_E_s r_X0_layersOf_12 rfl rfl ?_
  refine xm_E_s r_X0_layersOf_13 rfl (xm_T_gi rfl q3 rfl (Or.inl rfl)) ?_
  refine xm_E_s r_X0_layersOf_14 rfl rfl ?_
  refine xm_E_s r_X0_layersOf_15 rfl rfl ?_
  refine xm_E_s r_X0_layersOf_16 rfl (xm_T_idiv rfl q4) ?_
  exact xm_E_iret r_X0_layersOf_17 rfl rfl
theorem p_X0_layersOf_0_1 {X : xm_X} {P : List xm_M} {d : Nat} {h : xm_H} {l0 : Nat} {l1 : Int32} {h0 : xm_H} {r0 : Int32} {h1 : xm_H} {r1 : Int32} (q0 : xm_V X P d 38 [.int l1] h (some (.int r0)) h0) (q1 : xm_V X P d 39 [.int l1] h0 (some (.int r1)) h1) (q2 : ¬ ((0 : Int32) < r0 * r1)) : xm_E X P d co_X0_layersOf 0 [some (.ref l0), some (.int l1), none] [] h (some (.int (0 : Int32))) h1 := by
  refine xm_E_s r_X0_layersOf_0 rfl rfl ?_
  refine xm_E_cs [.int l1] [] r_X0_layersOf_1 rfl rfl rfl (Nat.le_of_ble_eq_true rfl) rfl q0 ?_
  refine xm_E_s r_X0_layersOf_2 rfl rfl ?_
  refine xm_E_cs [.int l1] [.int r0] r_X0_layersOf_3 rfl rfl rfl (Nat.le_of_ble_eq_true rfl) rfl q1 ?_
  refine xm_E_s r_X0_layersOf_4 rfl rfl ?_
  refine xm_E_s (ls1 := [some (.ref l0), some (.int l1), some (.int (r0 * r1))]) r_X0_layersOf_5 rfl rfl ?_
  refine xm_E_s r_X0_layersOf_6 rfl rfl ?_
  refine xm_E_s r_X0_layersOf_7 rfl rfl ?_
  refine xm_E_f q2 ?_
  refine xm_E_s r_X0_layersOf_8 rfl rfl ?_
  refine xm_E_s r_X0_layersOf_9 rfl rfl ?_
  exact xm_E_iret r_X0_layersOf_17 rfl rfl
theorem r_X0_thicknessOf_0 : co_X0_thicknessOf[0]? = some ((0, .aload_n 0, 0, 0, 0, 0, 0, 0, []) : xm_I) := rfl
theorem r_X0_thicknessOf_1 : co_X0_thicknessOf[1]? = some ((1, .iload_n 1, 0, 0, 0, 0, 0, 0, []) : xm_I) := rfl
theorem r_X0_thicknessOf_2 : co_X0_thicknessOf[2]? = some ((2, .invokevirtual 116, 729, 43, 2, 0, 0, 0, []) : xm_I) := rfl
theorem r_X0_thicknessOf_3 : co_X0_thicknessOf[3]? = some ((5, .aload_n 0, 0, 0, 0, 0, 0, 0, []) : xm_I) := rfl
theorem r_X0_thicknessOf_4 : co_X0_thicknessOf[4]? = some ((6, .getfield 47, 214, 0, 3, 0, 0, 0, []) : xm_I) := rfl
theorem r_X0_thicknessOf_5 : co_X0_thicknessOf[5]? = some ((9, .imul, 0, 0, 0, 0, 0, 0, []) : xm_I) := rfl
theorem r_X0_thicknessOf_6 : co_X0_thicknessOf[6]? = some ((10, .ireturn, 0, 0, 0, 0, 0, 0, []) : xm_I) := rfl
theorem p_X0_thicknessOf_0_0 {X : xm_X} {P : List xm_M} {d : Nat} {h : xm_H} {l0 : Nat} {l1 : Int32} {h0 : xm_H} {r0 : Int32} (q0 : xm_V X P d 43 [.ref l0, .int l1] h (some (.int r0)) h0) (q1 : X.1[l0]? = some (.inr 0)) : xm_E X P d co_X0_thicknessOf 0 [some (.ref l0), some (.int l1)] [] h (some (.int (r0 * (h0.1 l0 3)))) h0 := by
  refine xm_E_s r_X0_thicknessOf_0 rfl rfl ?_
  refine xm_E_s r_X0_thicknessOf_1 rfl rfl ?_
  refine xm_E_cv [.ref l0, .int l1] [] r_X0_thicknessOf_2 rfl rfl (Nat.le_of_ble_eq_true rfl) (xm_rc q1 (by decide)) rfl q0 ?_
  refine xm_E_s r_X0_thicknessOf_3 rfl rfl ?_
  refine xm_E_s r_X0_thicknessOf_4 rfl (xm_T_gi rfl q1 rfl (Or.inl rfl)) ?_
  refine xm_E_s r_X0_thicknessOf_5 rfl rfl ?_
  exact xm_E_iret r_X0_thicknessOf_6 rfl rfl
theorem r_X5_possible_0 : co_X5_possible[0]? = some ((0, .iload_n 0, 0, 0, 0, 0, 0, 0, []) : xm_I) := rfl
theorem r_X5_possible_1 : co_X5_possible[1]? = some ((1, .invokestatic 11, 740, 42, 1, 0, 0, 0, []) : xm_I) := rfl
theorem r_X5_possible_2 : co_X5_possible[2]? = some ((4, .istore_n 3, 0, 0, 0, 0, 0, 0, []) : xm_I) := rfl
theorem r_X5_possible_3 : co_X5_possible[3]? = some ((5, .iload_n 1, 0, 0, 0, 0, 0, 0, []) : xm_I) := rfl
theorem r_X5_possible_4 : co_X5_possible[4]? = some ((6, .tableswitch 64 8 12 #[46, 36, 64, 64, 34], 0, 0, 23, 0, 0, 0, [13, 7, 23, 23, 5]) : xm_I) := rfl
theorem r_X5_possible_5 : co_X5_possible[5]? = some ((40, .iconst 1, 0, 0, 0, 0, 1, 0, []) : xm_I) := rfl
theorem r_X5_possible_6 : co_X5_possible[6]? = some ((41, .ireturn, 0, 0, 0, 3, 0, 0, []) : xm_I) := rfl
theorem r_X5_possible_7 : co_X5_possible[7]? = some ((42, .iload_n 3, 0, 0, 0, 0, 0, 0, []) : xm_I) := rfl
theorem r_X5_possible_8 : co_X5_possible[8]? = some ((43, .ifCond .eq 7, 0, 0, 11, 0, 0, 0, []) : xm_I) := rfl
theorem r_X5_possible_9 : co_X5_possible[9]? = some ((46, .iconst 1, 0, 0, 0, 0, 1, 0, []) : xm_I) := rfl
theorem r_X5_possible_10 : co_X5_possible[10]? = some ((47, .goto 4, 0, 0, 12, 0, 0, 0, []) : xm_I) := rfl
theorem r_X5_possible_11 : co_X5_possible[11]? = some ((50, .iconst 0, 0, 0, 0, 0, 0, 0, []) : xm_I) := rfl
theorem r_X5_possible_12 : co_X5_possible[12]? = some ((51, .ireturn, 0, 0, 0, 3, 0, 0, []) : xm_I) := rfl
theorem r_X5_possible_13 : co_X5_possible[13]? = some ((52, .iload_n 3, 0, 0, 0, 0, 0, 0, []) : xm_I) := rfl
theorem r_X5_possible_14 : co_X5_possible[14]? = some ((53, .ifCond .ne 15, 0, 0, 21, 0, 0, 0, []) : xm_I) := rfl
theorem r_X5_possible_15 : co_X5_possible[15]? = some ((56, .iload_n 0, 0, 0, 0, 0, 0, 0, []) : xm_I) := rfl
theorem r_X5_possible_16 : co_X5_possible[16]? = some ((57, .invokestatic 15, 741, 39, 1, 0, 0, 0, []) : xm_I) := rfl
theorem r_X5_possible_17 : co_X5_possible[17]? = some ((60, .iload_n 2, 0, 0, 0, 0, 0, 0, []) : xm_I) := rfl
theorem r_X5_possible_18 : co_X5_possible[18]? = some ((61, .if_icmp .gt 7, 0, 0, 21, 0, 0, 0, []) : xm_I) := rfl
theorem r_X5_possible_19 : co_X5_possible[19]? = some ((64, .iconst 1, 0, 0, 0, 0, 1, 0, []) : xm_I) := rfl
theorem r_X5_possible_20 : co_X5_possible[20]? = some ((65, .goto 4, 0, 0, 22, 0, 0, 0, []) : xm_I) := rfl
theorem r_X5_possible_21 : co_X5_possible[21]? = some ((68, .iconst 0, 0, 0, 0, 0, 0, 0, []) : xm_I) := rfl
theorem r_X5_possible_22 : co_X5_possible[22]? = some ((69, .ireturn, 0, 0, 0, 3, 0, 0, []) : xm_I) := rfl
theorem r_X5_possible_23 : co_X5_possible[23]? = some ((70, .iload_n 0, 0, 0, 0, 0, 0, 0, []) : xm_I) := rfl
theorem r_X5_possible_24 : co_X5_possible[24]? = some ((71, .invokestatic 18, 742, 38, 1, 0, 0, 0, []) : xm_I) := rfl
theorem r_X5_possible_25 : co_X5_possible[25]? = some ((74, .istore 4, 0, 0, 0, 0, 0, 0, []) : xm_I) := rfl
theorem r_X5_possible_26 : co_X5_possible[26]? = some ((76, .iload 4, 0, 0, 0, 0, 0, 0, []) : xm_I) := rfl
theorem r_X5_possible_27 : co_X5_possible[27]? = some ((78, .iload_n 2, 0, 0, 0, 0, 0, 0, []) : xm_I) := rfl
theorem r_X5_possible_28 : co_X5_possible[28]? = some ((79, .if_icmp .gt 16, 0, 0, 35, 0, 0, 0, []) : xm_I) := rfl
theorem r_X5_possible_29 : co_X5_possible[29]? = some ((82, .iload 4, 0, 0, 0, 0, 0, 0, []) : xm_I) := rfl
theorem r_X5_possible_30 : co_X5_possible[30]? = some ((84, .iload_n 0, 0, 0, 0, 0, 0, 0, []) : xm_I) := rfl
theorem r_X5_possible_31 : co_X5_possible[31]? = some ((85, .invokestatic 15, 741, 39, 1, 0, 0, 0, []) : xm_I) := rfl
theorem r_X5_possible_32 : co_X5_possible[32]? = some ((88, .iload_n 1, 0, 0, 0, 0, 0, 0, []) : xm_I) := rfl
theorem r_X5_possible_33 : co_X5_possible[33]? = some ((89, .invokestatic 21, 743, 48, 3, 0, 0, 0, []) : xm_I) := rfl
theorem r_X5_possible_34 : co_X5_possible[34]? = some ((92, .ifCond .ne 5, 0, 0, 37, 0, 0, 0, []) : xm_I) := rfl
theorem r_X5_possible_35 : co_X5_possible[35]? = some ((95, .iconst 0, 0, 0, 0, 0, 0, 0, []) : xm_I) := rfl
theorem r_X5_possible_36 : co_X5_possible[36]? = some ((96, .ireturn, 0, 0, 0, 3, 0, 0, []) : xm_I) := rfl
theorem r_X5_possible_37 : co_X5_possible[37]? = some ((97, .iload_n 1, 0, 0, 0, 0, 0, 0, []) : xm_I) := rfl
theorem r_X5_possible_38 : co_X5_possible[38]? = some ((98, .lookupswitch 49 #[(10, 26), (11, 37)], 0, 0, 53, 0, 0, 0, [39, 46]) : xm_I) := rfl
theorem r_X5_possible_39 : co_X5_possible[39]? = some ((124, .iload_n 3, 0, 0, 0, 0, 0, 0, []) : xm_I) := rfl
theorem r_X5_possible_40 : co_X5_possible[40]? = some ((125, .iconst 2, 0, 0, 0, 0, 2, 0, []) : xm_I) := rfl
theorem r_X5_possible_41 : co_X5_possible[41]? = some ((126, .if_icmp .ge 7, 0, 0, 44, 0, 0, 0, []) : xm_I) := rfl
theorem r_X5_possible_42 : co_X5_possible[42]? = some ((129, .iconst 1, 0, 0, 0, 0, 1, 0, []) : xm_I) := rfl
theorem r_X5_possible_43 : co_X5_possible[43]? = some ((130, .goto 4, 0, 0, 45, 0, 0, 0, []) : xm_I) := rfl
theorem r_X5_possible_44 : co_X5_possible[44]? = some ((133, .iconst 0, 0, 0, 0, 0, 0, 0, []) : xm_I) := rfl
theorem r_X5_possible_45 : co_X5_possible[45]? = some ((134, .ireturn, 0, 0, 0, 3, 0, 0, []) : xm_I) := rfl
theorem r_X5_possible_46 : co_X5_possible[46]? = some ((135, .iload_n 3, 0, 0, 0, 0, 0, 0, []) : xm_I) := rfl
theorem r_X5_possible_47 : co_X5_possible[47]? = some ((136, .bipush (-2), 0, 0, 0, 0, (-2), 0, []) : xm_I) := rfl
theorem r_X5_possible_48 : co_X5_possible[48]? = some ((138, .if_icmp .le 7, 0, 0, 51, 0, 0, 0, []) : xm_I) := rfl
theorem r_X5_possible_49 : co_X5_possible[49]? = some ((141, .iconst 1, 0, 0, 0, 0, 1, 0, []) : xm_I) := rfl
theorem r_X5_possible_50 : co_X5_possible[50]? = some ((142, .goto 4, 0, 0, 52, 0, 0, 0, []) : xm_I) := rfl
theorem r_X5_possible_51 : co_X5_possible[51]? = some ((145, .iconst 0, 0, 0, 0, 0, 0, 0, []) : xm_I) := rfl
theorem r_X5_possible_52 : co_X5_possible[52]? = some ((146, .ireturn, 0, 0, 0, 3, 0, 0, []) : xm_I) := rfl
theorem r_X5_possible_53 : co_X5_possible[53]? = some ((147, .iload_n 3, 0, 0, 0, 0, 0, 0, []) : xm_I) := rfl
theorem r_X5_possible_54 : co_X5_possible[54]? = some ((148, .ifCond .ne 7, 0, 0, 57, 0, 0, 0, []) : xm_I) := rfl
theorem r_X5_possible_55 : co_X5_possible[55]? = some ((151, .iconst 1, 0, 0, 0, 0, 1, 0, []) : xm_I) := rfl
theorem r_X5_possible_56 : co_X5_possible[56]? = some ((152, .goto 4, 0, 0, 58, 0, 0, 0, []) : xm_I) := rfl
theorem r_X5_possible_57 : co_X5_possible[57]? = some ((155, .iconst 0, 0, 0, 0, 0, 0, 0, []) : xm_I) := rfl
theorem r_X5_possible_58 : co_X5_possible[58]? = some ((156, .ireturn, 0, 0, 0, 3, 0, 0, []) : xm_I) := rfl
theorem p_X5_possible_0_0 {X : xm_X} {P : List xm_M} {d : Nat} {h : xm_H} {l0 : Int32} {l1 : Int32} {l2 : Int32} {h0 : xm_H} {r0 : Int32} {h1 : xm_H} {r1 : Int32} (q0 : xm_V X P d 42 [.int l0] h (some (.int r0)) h0) (q1 : l1 = (8 : Int32)) (q2 : r0 = (0 : Int32)) (q3 : xm_V X P d 39 [.int l0] h0 (some (.int r1)) h1) (q4 : l2 < r1) : xm_E X P d co_X5_possible 0 [some (.int l0), some (.int l1), some (.int l2), none, none] [] h (some (.int (0 : Int32))) h1 := by
  refine xm_E_s r_X5_possible_0 rfl rfl ?_
  refine xm_E_cs [.int l0] [] r_X5_possible_1 rfl rfl rfl (Nat.le_of_ble_eq_true rfl) rfl q0 ?_
  refine xm_E_s (ls1 := [some (.int l0), some (.int l1), some (.int l2), some (.int r0), none]) r_X5_possible_2 rfl rfl ?_
  refine xm_E_s r_X5_possible_3 rfl rfl ?_
  refine xm_E_s r_X5_possible_4 rfl (xm_T_tab (8 : Int32) 13 rfl q1 (by decide) rfl) ?_
  refine xm_E_s r_X5_possible_13 rfl rfl ?_
  refine xm_E_s r_X5_possible_14 rfl rfl ?_
  refine xm_E_t q2 ?_
  refine xm_E_s r_X5_possible_15 rfl rfl ?_
  refine xm_E_cs [.int l0] [] r_X5_possible_16 rfl rfl rfl (Nat.le_of_ble_eq_true rfl) rfl q3 ?_
  refine xm_E_s r_X5_possible_17 rfl rfl ?_
  refine xm_E_s r_X5_possible_18 rfl rfl ?_
  refine xm_E_t q4 ?_
  refine xm_E_s r_X5_possible_21 rfl rfl ?_
  exact xm_E_iret r_X5_possible_22 rfl rfl
theorem p_X5_possible_0_1 {X : xm_X} {P : List xm_M} {d : Nat} {h : xm_H} {l0 : Int32} {l1 : Int32} {l2 : Int32} {h0 : xm_H} {r0 : Int32} {h1 : xm_H} {r1 : Int32} (q0 : xm_V X P d 42 [.int l0] h (some (.int r0)) h0) (q1 : l1 = (8 : Int32)) (q2 : r0 = (0 : Int32)) (q3 : xm_V X P d 39 [.int l0] h0 (some (.int r1)) h1) (q4 : ¬ (l2 < r1)) : xm_E X P d co_X5_possible 0 [some (.int l0), some (.int l1), some (.int l2), none, none] [] h (some (.int (1 : Int32))) h1 := by
  refine xm_E_s r_X5_possible_0 rfl rfl ?_
  refine xm_E_cs [.int l0] [] r_X5_possible_1 rfl rfl rfl (Nat.le_of_ble_eq_true rfl) rfl q0 ?_
  refine xm_E_s (ls1 := [some (.int l0), some (.int l1), some (.int l2), some (.int r0), none]) r_X5_possible_2 rfl rfl ?_
  refine xm_E_s r_X5_possible_3 rfl rfl ?_
  refine xm_E_s r_X5_possible_4 rfl (xm_T_tab (8 : Int32) 13 rfl q1 (by decide) rfl) ?_
  refine xm_E_s r_X5_possible_13 rfl rfl ?_
  refine xm_E_s r_X5_possible_14 rfl rfl ?_
  refine xm_E_t q2 ?_
  refine xm_E_s r_X5_possible_15 rfl rfl ?_
  refine xm_E_cs [.int l0] [] r_X5_possible_16 rfl rfl rfl (Nat.le_of_ble_eq_true rfl) rfl q3 ?_
  refine xm_E_s r_X5_possible_17 rfl rfl ?_
  refine xm_E_s r_X5_possible_18 rfl rfl ?_
  refine xm_E_f q4 ?_
  refine xm_E_s r_X5_possible_19 rfl rfl ?_
  refine xm_E_s r_X5_possible_20 rfl rfl ?_
  exact xm_E_iret r_X5_possible_22 rfl rfl
theorem p_X5_possible_0_2 {X : xm_X} {P : List xm_M} {d : Nat} {h : xm_H} {l0 : Int32} {l1 : Int32} {l2 : Int32} {h0 : xm_H} {r0 : Int32} (q0 : xm_V X P d 42 [.int l0] h (some (.int r0)) h0) (q1 : l1 = (8 : Int32)) (q2 : ¬ (r0 = (0 : Int32))) : xm_E X P d co_X5_possible 0 [some (.int l0), some (.int l1), some (.int l2), none, none] [] h (some (.int (0 : Int32))) h0 := by
  refine xm_E_s r_X5_possible_0 rfl rfl ?_
  refine xm_E_cs [.int l0] [] r_X5_possible_1 rfl rfl rfl (Nat.le_of_ble_eq_true rfl) rfl q0 ?_
  refine xm_E_s (ls1 := [some (.int l0), some (.int l1), some (.int l2), some (.int r0), none]) r_X5_possible_2 rfl rfl ?_
  refine xm_E_s r_X5_possible_3 rfl rfl ?_
  refine xm_E_s r_X5_possible_4 rfl (xm_T_tab (8 : Int32) 13 rfl q1 (by decide) rfl) ?_
  refine xm_E_s r_X5_possible_13 rfl rfl ?_
  refine xm_E_s r_X5_possible_14 rfl rfl ?_
  refine xm_E_f q2 ?_
  refine xm_E_s r_X5_possible_21 rfl rfl ?_
  exact xm_E_iret r_X5_possible_22 rfl rfl
theorem p_X5_possible_0_3 {X : xm_X} {P : List xm_M} {d : Nat} {h : xm_H} {l0 : Int32} {l1 : Int32} {l2 : Int32} {h0 : xm_H} {r0 : Int32} (q0 : xm_V X P d 42 [.int l0] h (some (.int r0)) h0) (q1 : l1 = (9 : Int32)) (q2 : r0 = (0 : Int32)) : xm_E X P d co_X5_possible 0 [some (.int l0), some (.int l1), some (.int l2), none, none] [] h (some (.int (0 : Int32))) h0 := by
  refine xm_E_s r_X5_possible_0 rfl rfl ?_
  refine xm_E_cs [.int l0] [] r_X5_possible_1 rfl rfl rfl (Nat.le_of_ble_eq_true rfl) rfl q0 ?_
  refine xm_E_s (ls1 := [some (.int l0), some (.int l1), some (.int l2), some (.int r0), none]) r_X5_possible_2 rfl rfl ?_
  refine xm_E_s r_X5_possible_3 rfl rfl ?_
  refine xm_E_s r_X5_possible_4 rfl (xm_T_tab (9 : Int32) 7 rfl q1 (by decide) rfl) ?_
  refine xm_E_s r_X5_possible_7 rfl rfl ?_
  refine xm_E_s r_X5_possible_8 rfl rfl ?_
  refine xm_E_t q2 ?_
  refine xm_E_s r_X5_possible_11 rfl rfl ?_
  exact xm_E_iret r_X5_possible_12 rfl rfl
theorem p_X5_possible_0_4 {X : xm_X} {P : List xm_M} {d : Nat} {h : xm_H} {l0 : Int32} {l1 : Int32} {l2 : Int32} {h0 : xm_H} {r0 : Int32} (q0 : xm_V X P d 42 [.int l0] h (some (.int r0)) h0) (q1 : l1 = (9 : Int32)) (q2 : ¬ (r0 = (0 : Int32))) : xm_E X P d co_X5_possible 0 [some (.int l0), some (.int l1), some (.int l2), none, none] [] h (some (.int (1 : Int32))) h0 := by
  refine xm_E_s r_X5_possible_0 rfl rfl ?_
  refine xm_E_cs [.int l0] [] r_X5_possible_1 rfl rfl rfl (Nat.le_of_ble_eq_true rfl) rfl q0 ?_
  refine xm_E_s (ls1 := [some (.int l0), some (.int l1), some (.int l2), some (.int r0), none]) r_X5_possible_2 rfl rfl ?_
  refine xm_E_s r_X5_possible_3 rfl rfl ?_
  refine xm_E_s r_X5_possible_4 rfl (xm_T_tab (9 : Int32) 7 rfl q1 (by decide) rfl) ?_
  refine xm_E_s r_X5_possible_7 rfl rfl ?_
  refine xm_E_s r_X5_possible_8 rfl rfl ?_
  refine xm_E_f q2 ?_
  refine xm_E_s r_X5_possible_9 rfl rfl ?_
  refine xm_E_s r_X5_possible_10 rfl rfl ?_
  exact xm_E_iret r_X5_possible_12 rfl rfl
theorem p_X5_possible_0_5 {X : xm_X} {P : List xm_M} {d : Nat} {h : xm_H} {l0 : Int32} {l1 : Int32} {l2 : Int32} {h0 : xm_H} {r0 : Int32} {h1 : xm_H} {r1 : Int32} (q0 : xm_V X P d 42 [.int l0] h (some (.int r0)) h0) (q1 : l1 = (10 : Int32)) (q2 : xm_V X P d 38 [.int l0] h0 (some (.int r1)) h1) (q3 : l2 < r1) : xm_E X P d co_X5_possible 0 [some (.int l0), some (.int l1), some (.int l2), none, none] [] h (some (.int (0 : Int32))) h1 := by
  refine xm_E_s r_X5_possible_0 rfl rfl ?_
  refine xm_E_cs [.int l0] [] r_X5_possible_1 rfl rfl rfl (Nat.le_of_ble_eq_true rfl) rfl q0 ?_
  refine xm_E_s (ls1 := [some (.int l0), some (.int l1), some (.int l2), some (.int r0), none]) r_X5_possible_2 rfl rfl ?_
  refine xm_E_s r_X5_possible_3 rfl rfl ?_
  refine xm_E_s r_X5_possible_4 rfl (xm_T_tab (10 : Int32) 23 rfl q1 (by decide) rfl) ?_
  refine xm_E_s r_X5_possible_23 rfl rfl ?_
  refine xm_E_cs [.int l0] [] r_X5_possible_24 rfl rfl rfl (Nat.le_of_ble_eq_true rfl) rfl q2 ?_
  refine xm_E_s (ls1 := [some (.int l0), some (.int l1), some (.int l2), some (.int r0), some (.int r1)]) r_X5_possible_25 rfl rfl ?_
  refine xm_E_s r_X5_possible_26 rfl rfl ?_
  refine xm_E_s r_X5_possible_27 rfl rfl ?_
  refine xm_E_s r_X5_possible_28 rfl rfl ?_
  refine xm_E_t q3 ?_
  refine xm_E_s r_X5_possible_35 rfl rfl ?_
  exact xm_E_iret r_X5_possible_36 rfl rfl
theorem p_X5_possible_0_6 {X : xm_X} {P : List xm_M} {d : Nat} {h : xm_H} {l0 : Int32} {l1 : Int32} {l2 : Int32} {h0 : xm_H} {r0 : Int32} {h1 : xm_H} {r1 : Int32} {h2 : xm_H} {r2 : Int32} {h3 : xm_H} {r3 : Int32} (q0 : xm_V X P d 42 [.int l0] h (some (.int r0)) h0) (q1 : l1 = (10 : Int32)) (q2 : xm_V X P d 38 [.int l0] h0 (some (.int r1)) h1) (q3 : ¬ (l2 < r1)) (q4 : xm_V X P d 39 [.int l0] h1 (some (.int r2)) h2) (q5 : xm_V X P d 48 [.int r1, .int r2, .int l1] h2 (some (.int r3)) h3) (q6 : r3 = (0 : Int32)) : xm_E X P d co_X5_possible 0 [some (.int l0), some (.int l1), some (.int l2), none, none] [] h (some (.int (0 : Int32))) h3 := by
  refine xm_E_s r_X5_possible_0 rfl rfl ?_
  refine xm_E_cs [.int l0] [] r_X5_possible_1 rfl rfl rfl (Nat.le_of_ble_eq_true rfl) rfl q0 ?_
  refine xm_E_s (ls1 := [some (.int l0), some (.int l1), some (.int l2), some (.int r0), none]) r_X5_possible_2 rfl rfl ?_
  refine xm_E_s r_X5_possible_3 rfl rfl ?_
  refine xm_E_s r_X5_possible_4 rfl (xm_T_tab (10 : Int32) 23 rfl q1 (by decide) rfl) ?_
  refine xm_E_s r_X5_possible_23 rfl rfl ?_
  refine xm_E_cs [.int l0] [] r_X5_possible_24 rfl rfl rfl (Nat.le_of_ble_eq_true rfl) rfl q2 ?_
  refine xm_E_s (ls1 := [some (.int l0), some (.int l1), some (.int l2), some (.int r0), some (.int r1)]) r_X5_possible_25 rfl rfl ?_
  refine xm_E_s r_X5_possible_26 rfl rfl ?_
  refine xm_E_s r_X5_possible_27 rfl rfl ?_
  refine xm_E_s r_X5_possible_28 rfl rfl ?_
  refine xm_E_f q3 ?_
  refine xm_E_s r_X5_possible_29 rfl rfl ?_
  refine xm_E_s r_X5_possible_30 rfl rfl ?_
  refine xm_E_cs [.int l0] [.int r1] r_X5_possible_31 rfl rfl rfl (Nat.le_of_ble_eq_true rfl) rfl q4 ?_
  refine xm_E_s r_X5_possible_32 rfl rfl ?_
  refine xm_E_cs [.int r1, .int r2, .int l1] [] r_X5_possible_33 rfl rfl rfl (Nat.le_of_ble_eq_true rfl) rfl q5 ?_
  refine xm_E_s r_X5_possible_34 rfl rfl ?_
  refine xm_E_t q6 ?_
  refine xm_E_s r_X5_possible_35 rfl rfl ?_
  exact xm_E_iret r_X5_possible_36 rfl rfl
theorem p_X5_possible_0_7 {X : xm_X} {P : List xm_M} {d : Nat} {h : xm_H} {l0 : Int32} {l1 : Int32} {l2 : Int32} {h0 : xm_H} {r0 : Int32} {h1 : xm_H} {r1 : Int32} {h2 : xm_H} {r2 : Int32} {h3 : xm_H} {r3 : Int32} (q0 : xm_V X P d 42 [.int l0] h (some (.int r0)) h0) (q1 : l1 = (10 : Int32)) (q2 : xm_V X P d 38 [.int l0] h0 (some (.int r1)) h1) (q3 : ¬ (l2 < r1)) (q4 : xm_V X P d 39 [.int l0] h1 (some (.int r2)) h2) (q5 : xm_V X P d 48 [.int r1, .int r2, .int l1] h2 (some (.int r3)) h3) (q6 : ¬ (r3 = (0 : Int32))) (q7 : (2 : Int32) ≤ r0) : xm_E X P d co_X5_possible 0 [some (.int l0), some (.int l1), some (.int l2), none, none] [] h (some (.int (0 : Int32))) h3 := by
  refine xm_E_s r_X5_possible_0 rfl rfl ?_
  refine xm_E_cs [.int l0] [] r_X5_possible_1 rfl rfl rfl (Nat.le_of_ble_eq_true rfl) rfl q0 ?_
  refine xm_E_s (ls1 := [some (.int l0), some (.int l1), some (.int l2), some (.int r0), none]) r_X5_possible_2 rfl rfl ?_
  refine xm_E_s r_X5_possible_3 rfl rfl ?_
  refine xm_E_s r_X5_possible_4 rfl (xm_T_tab (10 : Int32) 23 rfl q1 (by decide) rfl) ?_
  refine xm_E_s r_X5_possible_23 rfl rfl ?_
  refine xm_E_cs [.int l0] [] r_X5_possible_24 rfl rfl rfl (Nat.le_of_ble_eq_true rfl) rfl q2 ?_
  refine xm_E_s (ls1 := [some (.int l0), some (.int l1), some (.int l2), some (.int r0), some (.int r1)]) r_X5_possible_25 rfl rfl ?_
  refine xm_E_s r_X5_possible_26 rfl rfl ?_
  refine xm_E_s r_X5_possible_27 rfl rfl ?_
  refine xm_E_s r_X5_possible_28 rfl rfl ?_
  refine xm_E_f q3 ?_
  refine xm_E_s r_X5_possible_29 rfl rfl ?_
  refine xm_E_s r_X5_possible_30 rfl rfl ?_
  refine xm_E_cs [.int l0] [.int r1] r_X5_possible_31 rfl rfl rfl (Nat.le_of_ble_eq_true rfl) rfl q4 ?_
  refine xm_E_s r_X5_possible_32 rfl rfl ?_
  refine xm_E_cs [.int r1, .int r2, .int l1] [] r_X5_possible_33 rfl rfl rfl (Nat.le_of_ble_eq_true rfl) rfl q5 ?_
  refine xm_E_s r_X5_possible_34 rfl rfl ?_
  refine xm_E_f q6 ?_
  refine xm_E_s r_X5_possible_37 rfl rfl ?_
  refine xm_E_s r_X5_possible_38 rfl (xm_T_lk 39 rfl (by rw [q1]; rfl)) ?_
  refine xm_E_s r_X5_possible_39 rfl rfl ?_
  refine xm_E_s r_X5_possible_40 rfl rfl ?_
  refine xm_E_s r_X5_possible_41 rfl rfl ?_
  refine xm_E_t q7 ?_
  refine xm_E_s r_X5_possible_44 rfl rfl ?_
  exact xm_E_iret r_X5_possible_45 rfl rfl
theorem p_X5_possible_0_8 {X : xm_X} {P : List xm_M} {d : Nat} {h : xm_H} {l0 : Int32} {l1 : Int32} {l2 : Int32} {h0 : xm_H} {r0 : Int32} {h1 : xm_H} {r1 : Int32} {h2 : xm_H} {r2 : Int32} {h3 : xm_H} {r3 : Int32} (q0 : xm_V X P d 42 [.int l0] h (some (.int r0)) h0) (q1 : l1 = (10 : Int32)) (q2 : xm_V X P d 38 [.int l0] h0 (some (.int r1)) h1) (q3 : ¬ (l2 < r1)) (q4 : xm_V X P d 39 [.int l0] h1 (some (.int r2)) h2) (q5 : xm_V X P d 48 [.int r1, .int r2, .int l1] h2 (some (.int r3)) h3) (q6 : ¬ (r3 = (0 : Int32))) (q7 : ¬ ((2 : Int32) ≤ r0)) : xm_E X P d co_X5_possible 0 [some (.int l0), some (.int l1), some (.int l2), none, none] [] h (some (.int (1 : Int32))) h3 := by
  refine xm_E_s r_X5_possible_0 rfl rfl ?_
  refine xm_E_cs [.int l0] [] r_X5_possible_1 rfl rfl rfl (Nat.le_of_ble_eq_true rfl) rfl q0 ?_
  refine xm_E_s (ls1 := [some (.int l0), some (.int l1), some (.int l2), some (.int r0), none]) r_X5_possible_2 rfl rfl ?_
  refine xm_E_s r_X5_possible_3 rfl rfl ?_
  refine xm_E_s r_X5_possible_4 rfl (xm_T_tab (10 : Int32) 23 rfl q1 (by decide) rfl) ?_
  refine xm_E_s r_X5_possible_23 rfl rfl ?_
  refine xm_E_cs [.int l0] [] r_X5_possible_24 rfl rfl rfl (Nat.le_of_ble_eq_true rfl) rfl q2 ?_
  refine xm_E_s (ls1 := [some (.int l0), some (.int l1), some (.int l2), some (.int r0), some (.int r1)]) r_X5_possible_25 rfl rfl ?_
  refine xm_E_s r_X5_possible_26 rfl rfl ?_
  refine xm_E_s r_X5_possible_27 rfl rfl ?_
  refine xm_E_s r_X5_possible_28 rfl rfl ?_
  refine xm_E_f q3 ?_
  refine xm_E_s r_X5_possible_29 rfl rfl ?_
  refine xm_E_s r_X5_possible_30 rfl rfl ?_
  refine xm_E_cs [.int l0] [.int r1] r_X5_possible_31 rfl rfl rfl (Nat.le_of_ble_eq_true rfl) rfl q4 ?_
  refine xm_E_s r_X5_possible_32 rfl rfl ?_
  refine xm_E_cs [.int r1, .int r2, .int l1] [] r_X5_possible_33 rfl rfl rfl (Nat.le_of_ble_eq_true rfl) rfl q5 ?_
  refine xm_E_s r_X5_possible_34 rfl rfl ?_
  refine xm_E_f q6 ?_
  refine xm_E_s r_X5_possible_37 rfl rfl ?_
  refine xm_E_s r_X5_possible_38 rfl (xm_T_lk 39 rfl (by rw [q1]; rfl)) ?_
  refine xm_E_s r_X5_possible_39 rfl rfl ?_
  refine xm_E_s r_X5_possible_40 rfl rfl ?_
  refine xm_E_s r_X5_possible_41 rfl rfl ?_
  refine xm_E_f q7 ?_
  refine xm_E_s r_X5_possible_42 rfl rfl ?_
  refine xm_E_s r_X5_possible_43 rfl rfl ?_
  exact xm_E_iret r_X5_possible_45 rfl rfl
theorem p_X5_possible_0_9 {X : xm_X} {P : List xm_M} {d : Nat} {h : xm_H} {l0 : Int32} {l1 : Int32} {l2 : Int32} {h0 : xm_H} {r0 : Int32} {h1 : xm_H} {r1 : Int32} {h2 : xm_H} {r2 : Int32} {h3 : xm_H} {r3 : Int32} (q0 : xm_V X P d 42 [.int l0] h (some (.int r0)) h0) (q1 : l1 = (10 : Int32)) (q2 : xm_V X P d 38 [.int l0] h0 (some (.int r1)) h1) (q3 : ¬ (l2 < r1)) (q4 : xm_V X P d 39 [.int l0] h1 (some (.int r2)) h2) (q5 : xm_V X P d 48 [.int r1, .int r2, .int l1] h2 (some (.int r3)) h3) (q6 : ¬ (r3 = (0 : Int32))) (q7 : l1 = (11 : Int32)) (q8 : r0 ≤ (-2 : Int32)) : xm_E X P d co_X5_possible 0 [some (.int l0), some (.int l1), some (.int l2), none, none] [] h (some (.int (0 : Int32))) h3 := by
  refine xm_E_s r_X5_possible_0 rfl rfl ?_
  refine xm_E_cs [.int l0] [] r_X5_possible_1 rfl rfl rfl (Nat.le_of_ble_eq_true rfl) rfl q0 ?_
  refine xm_E_s (ls1 := [some (.int l0), some (.int l1), some (.int l2), some (.int r0), none]) r_X5_possible_2 rfl rfl ?_
  refine xm_E_s r_X5_possible_3 rfl rfl ?_
  refine xm_E_s r_X5_possible_4 rfl (xm_T_tab (10 : Int32) 23 rfl q1 (by decide) rfl) ?_
  refine xm_E_s r_X5_possible_23 rfl rfl ?_
  refine xm_E_cs [.int l0] [] r_X5_possible_24 rfl rfl rfl (Nat.le_of_ble_eq_true rfl) rfl q2 ?_
  refine xm_E_s (ls1 := [some (.int l0), some (.int l1), some (.int l2), some (.int r0), some (.int r1)]) r_X5_possible_25 rfl rfl ?_
  refine xm_E_s r_X5_possible_26 rfl rfl ?_
  refine xm_E_s r_X5_possible_27 rfl rfl ?_
  refine xm_E_s r_X5_possible_28 rfl rfl ?_
  refine xm_E_f q3 ?_
  refine xm_E_s r_X5_possible_29 rfl rfl ?_
  refine xm_E_s r_X5_possible_30 rfl rfl ?_
  refine xm_E_cs [.int l0] [.int r1] r_X5_possible_31 rfl rfl rfl (Nat.le_of_ble_eq_true rfl) rfl q4 ?_
  refine xm_E_s r_X5_possible_32 rfl rfl ?_
  refine xm_E_cs [.int r1, .int r2, .int l1] [] r_X5_possible_33 rfl rfl rfl (Nat.le_of_ble_eq_true rfl) rfl q5 ?_
  refine xm_E_s r_X5_possible_34 rfl rfl ?_
  refine xm_E_f q6 ?_
  refine xm_E_s r_X5_possible_37 rfl rfl ?_
  refine xm_E_s r_X5_possible_38 rfl (xm_T_lk 46 rfl (by rw [q7]; rfl)) ?_
  refine xm_E_s r_X5_possible_46 rfl rfl ?_
  refine xm_E_s r_X5_possible_47 rfl rfl ?_
  refine xm_E_s r_X5_possible_48 rfl rfl ?_
  refine xm_E_t q8 ?_
  refine xm_E_s r_X5_possible_51 rfl rfl ?_
  exact xm_E_iret r_X5_possible_52 rfl rfl
theorem p_X5_possible_0_10 {X : xm_X} {P : List xm_M} {d : Nat} {h : xm_H} {l0 : Int32} {l1 : Int32} {l2 : Int32} {h0 : xm_H} {r0 : Int32} {h1 : xm_H} {r1 : Int32} {h2 : xm_H} {r2 : Int32} {h3 : xm_H} {r3 : Int32} (q0 : xm_V X P d 42 [.int l0] h (some (.int r0)) h0) (q1 : l1 = (10 : Int32)) (q2 : xm_V X P d 38 [.int l0] h0 (some (.int r1)) h1) (q3 : ¬ (l2 < r1)) (q4 : xm_V X P d 39 [.int l0] h1 (some (.int r2)) h2) (q5 : xm_V X P d 48 [.int r1, .int r2, .int l1] h2 (some (.int r3)) h3) (q6 : ¬ (r3 = (0 : Int32))) (q7 : l1 = (11 : Int32)) (q8 : ¬ (r0 ≤ (-2 : Int32))) : xm_E X P d co_X5_possible 0 [some (.int l0), some (.int l1), some (.int l2), none, none] [] h (some (.int (1 : Int32))) h3 := by
  refine xm_E_s r_X5_possible_0 rfl rfl ?_
  refine xm_E_cs [.int l0] [] r_X5_possible_1 rfl rfl rfl (Nat.le_of_ble_eq_true rfl) rfl q0 ?_
  refine xm_E_s (ls1 := [some (.int l0), some (.int l1), some (.int l2), some (.int r0), none]) r_X5_possible_2 rfl rfl ?_
  refine xm_E_s r_X5_possible_3 rfl rfl ?_
  refine xm_E_s r_X5_possible_4 rfl (xm_T_tab (10 : Int32) 23 rfl q1 (by decide) rfl) ?_
  refine xm_E_s r_X5_possible_23 rfl rfl ?_
  refine xm_E_cs [.int l0] [] r_X5_possible_24 rfl rfl rfl (Nat.le_of_ble_eq_true rfl) rfl q2 ?_
  refine xm_E_s (ls1 := [some (.int l0), some (.int l1), some (.int l2), some (.int r0), some (.int r1)]) r_X5_possible_25 rfl rfl ?_
  refine xm_E_s r_X5_possible_26 rfl rfl ?_
  refine xm_E_s r_X5_possible_27 rfl rfl ?_
  refine xm_E_s r_X5_possible_28 rfl rfl ?_
  refine xm_E_f q3 ?_
  refine xm_E_s r_X5_possible_29 rfl rfl ?_
  refine xm_E_s r_X5_possible_30 rfl rfl ?_
  refine xm_E_cs [.int l0] [.int r1] r_X5_possible_31 rfl rfl rfl (Nat.le_of_ble_eq_true rfl) rfl q4 ?_
  refine xm_E_s r_X5_possible_32 rfl rfl ?_
  refine xm_E_cs [.int r1, .int r2, .int l1] [] r_X5_possible_33 rfl rfl rfl (Nat.le_of_ble_eq_true rfl) rfl q5 ?_
  refine xm_E_s r_X5_possible_34 rfl rfl ?_
  refine xm_E_f q6 ?_
  refine xm_E_s r_X5_possible_37 rfl rfl ?_
  refine xm_E_s r_X5_possible_38 rfl (xm_T_lk 46 rfl (by rw [q7]; rfl)) ?_
  refine xm_E_s r_X5_possible_46 rfl rfl ?_
  refine xm_E_s r_X5_possible_47 rfl rfl ?_
  refine xm_E_s r_X5_possible_48 rfl rfl ?_
  refine xm_E_f q8 ?_
  refine xm_E_s r_X5_possible_49 rfl rfl ?_
  refine xm_E_s r_X5_possible_50 rfl rfl ?_
  exact xm_E_iret r_X5_possible_52 rfl rfl
theorem p_X5_possible_0_11 {X : xm_X} {P : List xm_M} {d : Nat} {h : xm_H} {l0 : Int32} {l1 : Int32} {l2 : Int32} {h0 : xm_H} {r0 : Int32} {h1 : xm_H} {r1 : Int32} {h2 : xm_H} {r2 : Int32} {h3 : xm_H} {r3 : Int32} (q0 : xm_V X P d 42 [.int l0] h (some (.int r0)) h0) (q1 : l1 = (10 : Int32)) (q2 : xm_V X P d 38 [.int l0] h0 (some (.int r1)) h1) (q3 : ¬ (l2 < r1)) (q4 : xm_V X P d 39 [.int l0] h1 (some (.int r2)) h2) (q5 : xm_V X P d 48 [.int r1, .int r2, .int l1] h2 (some (.int r3)) h3) (q6 : ¬ (r3 = (0 : Int32))) (q7 : ¬ (10 : Int) = l1.toInt) (q8 : ¬ (11 : Int) = l1.toInt) (q9 : r0 = (0 : Int32)) : xm_E X P d co_X5_possible 0 [some (.int l0), some (.int l1), some (.int l2), none, none] [] h (some (.int (1 : Int32))) h3 := by
  refine xm_E_s r_X5_possible_0 rfl rfl ?_
  refine xm_E_cs [.int l0] [] r_X5_possible_1 rfl rfl rfl (Nat.le_of_ble_eq_true rfl) rfl q0 ?_
  refine xm_E_s (ls1 := [some (.int l0), some (.int l1), some (.int l2), some (.int r0), none]) r_X5_possible_2 rfl rfl ?_
  refine xm_E_s r_X5_possible_3 rfl rfl ?_
  refine xm_E_s r_X5_possible_4 rfl (xm_T_tab (10 : Int32) 23 rfl q1 (by decide) rfl) ?_
  refine xm_E_s r_X5_possible_23 rfl rfl ?_
  refine xm_E_cs [.int l0] [] r_X5_possible_24 rfl rfl rfl (Nat.le_of_ble_eq_true rfl) rfl q2 ?_
  refine xm_E_s (ls1 := [some (.int l0), some (.int l1), some (.int l2), some (.int r0), some (.int r1)]) r_X5_possible_25 rfl rfl ?_
  refine xm_E_s r_X5_possible_26 rfl rfl ?_
  refine xm_E_s r_X5_possible_27 rfl rfl ?_
  refine xm_E_s r_X5_possible_28 rfl rfl ?_
  refine xm_E_f q3 ?_
  refine xm_E_s r_X5_possible_29 rfl rfl ?_
  refine xm_E_s r_X5_possible_30 rfl rfl ?_
  refine xm_E_cs [.int l0] [.int r1] r_X5_possible_31 rfl rfl rfl (Nat.le_of_ble_eq_true rfl) rfl q4 ?_
  refine xm_E_s r_X5_possible_32 rfl rfl ?_
  refine xm_E_cs [.int r1, .int r2, .int l1] [] r_X5_possible_33 rfl rfl rfl (Nat.le_of_ble_eq_true rfl) rfl q5 ?_
  refine xm_E_s r_X5_possible_34 rfl rfl ?_
  refine xm_E_f q6 ?_
  refine xm_E_s r_X5_possible_37 rfl rfl ?_
  refine xm_E_s r_X5_possible_38 rfl (xm_T_lk 53 rfl (by show (if (10 : Int) = l1.toInt then (39 : Nat) else (if (11 : Int) = l1.toInt then (46 : Nat) else 53)) = _; rw [if_neg q7, if_neg q8])) ?_
  refine xm_E_s r_X5_possible_53 rfl rfl ?_
  refine xm_E_s r_X5_possible_54 rfl rfl ?_
  refine xm_E_t q9 ?_
  refine xm_E_s r_X5_possible_55 rfl rfl ?_
  refine xm_E_s r_X5_possible_56 rfl rfl ?_
  exact xm_E_iret r_X5_possible_58 rfl rfl
theorem p_X5_possible_0_12 {X : xm_X} {P : List xm_M} {d : Nat} {h : xm_H} {l0 : Int32} {l1 : Int32} {l2 : Int32} {h0 : xm_H} {r0 : Int32} {h1 : xm_H} {r1 : Int32} {h2 : xm_H} {r2 : Int32} {h3 : xm_H} {r3 : Int32} (q0 : xm_V X P d 42 [.int l0] h (some (.int r0)) h0) (q1 : l1 = (10 : Int32)) (q2 : xm_V X P d 38 [.int l0] h0 (some (.int r1)) h1) (q3 : ¬ (l2 < r1)) (q4 : xm_V X P d 39 [.int l0] h1 (some (.int r2)) h2) (q5 : xm_V X P d 48 [.int r1, .int r2, .int l1] h2 (some (.int r3)) h3) (q6 : ¬ (r3 = (0 : Int32))) (q7 : ¬ (10 : Int) = l1.toInt) (q8 : ¬ (11 : Int) = l1.toInt) (q9 : ¬ (r0 = (0 : Int32))) : xm_E X P d co_X5_possible 0 [some (.int l0), some (.int l1), some (.int l2), none, none] [] h (some (.int (0 : Int32))) h3 := by
  refine xm_E_s r_X5_possible_0 rfl rfl ?_
  refine xm_E_cs [.int l0] [] r_X5_possible_1 rfl rfl rfl (Nat.le_of_ble_eq_true rfl) rfl q0 ?_
  refine xm_E_s (ls1 := [some (.int l0), some (.int l1), some (.int l2), some (.int r0), none]) r_X5_possible_2 rfl rfl ?_
  refine xm_E_s r_X5_possible_3 rfl rfl ?_
  refine xm_E_s r_X5_possible_4 rfl (xm_T_tab (10 : Int32) 23 rfl q1 (by decide) rfl) ?_
  refine xm_E_s r_X5_possible_23 rfl rfl ?_
  refine xm_E_cs [.int l0] [] r_X5_possible_24 rfl rfl rfl (Nat.le_of_ble_eq_true rfl) rfl q2 ?_
  refine xm_E_s (ls1 := [some (.int l0), some (.int l1), some (.int l2), some (.int r0), some (.int r1)]) r_X5_possible_25 rfl rfl ?_
  refine xm_E_s r_X5_possible_26 rfl rfl ?_
  refine xm_E_s r_X5_possible_27 rfl rfl ?_
  refine xm_E_s r_X5_possible_28 rfl rfl ?_
  refine xm_E_f q3 ?_
  refine xm_E_s r_X5_possible_29 rfl rfl ?_
  refine xm_E_s r_X5_possible_30 rfl rfl ?_
  refine xm_E_cs [.int l0] [.int r1] r_X5_possible_31 rfl rfl rfl (Nat.le_of_ble_eq_true rfl) rfl q4 ?_
  refine xm_E_s r_X5_possible_32 rfl rfl ?_
  refine xm_E_cs [.int r1, .int r2, .int l1] [] r_X5_possible_33 rfl rfl rfl (Nat.le_of_ble_eq_true rfl) rfl q5 ?_
  refine xm_E_s r_X5_possible_34 rfl rfl ?_
  refine xm_E_f q6 ?_
  refine xm_E_s r_X5_possible_37 rfl rfl ?_
  refine xm_E_s r_X5_possible_38 rfl (xm_T_lk 53 rfl (by show (if (10 : Int) = l1.toInt then (39 : Nat) else (if (11 : Int) = l1.toInt then (46 : Nat) else 53)) = _; rw [if_neg q7, if_neg q8])) ?_
  refine xm_E_s r_X5_possible_53 rfl rfl ?_
  refine xm_E_s r_X5_possible_54 rfl rfl ?_
  refine xm_E_f q9 ?_
  refine xm_E_s r_X5_possible_57 rfl rfl ?_
  exact xm_E_iret r_X5_possible_58 rfl rfl
theorem p_X5_possible_0_13 {X : xm_X} {P : List xm_M} {d : Nat} {h : xm_H} {l0 : Int32} {l1 : Int32} {l2 : Int32} {h0 : xm_H} {r0 : Int32} {h1 : xm_H} {r1 : Int32} (q0 : xm_V X P d 42 [.int l0] h (some (.int r0)) h0) (q1 : l1 = (11 : Int32)) (q2 : xm_V X P d 38 [.int l0] h0 (some (.int r1)) h1) (q3 : l2 < r1) : xm_E X P d co_X5_possible 0 [some (.int l0), some (.int l1), some (.int l2), none, none] [] h (some (.int (0 : Int32))) h1 := by
  refine xm_E_s r_X5_possible_0 rfl rfl ?_
  refine xm_E_cs [.int l0] [] r_X5_possible_1 rfl rfl rfl (Nat.le_of_ble_eq_true rfl) rfl q0 ?_
  refine xm_E_s (ls1 := [some (.int l0), some (.int l1), some (.int l2), some (.int r0), none]) r_X5_possible_2 rfl rfl ?_
  refine xm_E_s r_X5_possible_3 rfl rfl ?_
  refine xm_E_s r_X5_possible_4 rfl (xm_T_tab (11 : Int32) 23 rfl q1 (by decide) rfl) ?_
  refine xm_E_s r_X5_possible_23 rfl rfl ?_
  refine xm_E_cs [.int l0] [] r_X5_possible_24 rfl rfl rfl (Nat.le_of_ble_eq_true rfl) rfl q2 ?_
  refine xm_E_s (ls1 := [some (.int l0), some (.int l1), some (.int l2), some (.int r0), some (.int r1)]) r_X5_possible_25 rfl rfl ?_
  refine xm_E_s r_X5_possible_26 rfl rfl ?_
  refine xm_E_s r_X5_possible_27 rfl rfl ?_
  refine xm_E_s r_X5_possible_28 rfl rfl ?_
  refine xm_E_t q3 ?_
  refine xm_E_s r_X5_possible_35 rfl rfl ?_
  exact xm_E_iret r_X5_possible_36 rfl rfl
theorem p_X5_possible_0_14 {X : xm_X} {P : List xm_M} {d : Nat} {h : xm_H} {l0 : Int32} {l1 : Int32} {l2 : Int32} {h0 : xm_H} {r0 : Int32} {h1 : xm_H} {r1 : Int32} {h2 : xm_H} {r2 : Int32} {h3 : xm_H} {r3 : Int32} (q0 : xm_V X P d 42 [.int l0] h (some (.int r0)) h0) (q1 : l1 = (11 : Int32)) (q2 : xm_V X P d 38 [.int l0] h0 (some (.int r1)) h1) (q3 : ¬ (l2 < r1)) (q4 : xm_V X P d 39 [.int l0] h1 (some (.int r2)) h2) (q5 : xm_V X P d 48 [.int r1, .int r2, .int l1] h2 (some (.int r3)) h3) (q6 : r3 = (0 : Int32)) : xm_E X P d co_X5_possible 0 [some (.int l0), some (.int l1), some (.int l2), none, none] [] h (some (.int (0 : Int32))) h3 := by
  refine xm_E_s r_X5_possible_0 rfl rfl ?_
  refine xm_E_cs [.int l0] [] r_X5_possible_1 rfl rfl rfl (Nat.le_of_ble_eq_true rfl) rfl q0 ?_
  refine xm_E_s (ls1 := [some (.int l0), some (.int l1), some (.int l2), some (.int r0), none]) r_X5_possible_2 rfl rfl ?_
  refine xm_E_s r_X5_possible_3 rfl rfl ?_
  refine xm_E_s r_X5_possible_4 rfl (xm_T_tab (11 : Int32) 23 rfl q1 (by decide) rfl) ?_
  refine xm_E_s r_X5_possible_23 rfl rfl ?_
  refine xm_E_cs [.int l0] [] r_X5_possible_24 rfl rfl rfl (Nat.le_of_ble_eq_true rfl) rfl q2 ?_
  refine xm_E_s (ls1 := [some (.int l0), some (.int l1), some (.int l2), some (.int r0), some (.int r1)]) r_X5_possible_25 rfl rfl ?_
  refine xm_E_s r_X5_possible_26 rfl rfl ?_
  refine xm_E_s r_X5_possible_27 rfl rfl ?_
  refine xm_E_s r_X5_possible_28 rfl rfl ?_
  refine xm_E_f q3 ?_
  refine xm_E_s r_X5_possible_29 rfl rfl ?_
  refine xm_E_s r_X5_possible_30 rfl rfl ?_
  refine xm_E_cs [.int l0] [.int r1] r_X5_possible_31 rfl rfl rfl (Nat.le_of_ble_eq_true rfl) rfl q4 ?_
  refine xm_E_s r_X5_possible_32 rfl rfl ?_
  refine xm_E_cs [.int r1, .int r2, .int l1] [] r_X5_possible_33 rfl rfl rfl (Nat.le_of_ble_eq_true rfl) rfl q5 ?_
  refine xm_E_s r_X5_possible_34 rfl rfl ?_
  refine xm_E_t q6 ?_
  refine xm_E_s r_X5_possible_35 rfl rfl ?_
  exact xm_E_iret r_X5_possible_36 rfl rfl
theorem p_X5_possible_0_15 {X : xm_X} {P : List xm_M} {d : Nat} {h : xm_H} {l0 : Int32} {l1 : Int32} {l2 : Int32} {h0 : xm_H} {r0 : Int32} {h1 : xm_H} {r1 : Int32} {h2 : xm_H} {r2 : Int32} {h3 : xm_H} {r3 : Int32} (q0 : xm_V X P d 42 [.int l0] h (some (.int r0)) h0) (q1 : l1 = (11 : Int32)) (q2 : xm_V X P d 38 [.int l0] h0 (some (.int r1)) h1) (q3 : ¬ (l2 < r1)) (q4 : xm_V X P d 39 [.int l0] h1 (some (.int r2)) h2) (q5 : xm_V X P d 48 [.int r1, .int r2, .int l1] h2 (some (.int r3)) h3) (q6 : ¬ (r3 = (0 : Int32))) (q7 : l1 = (10 : Int32)) (q8 : (2 : Int32) ≤ r0) : xm_E X P d co_X5_possible 0 [some (.int l0), some (.int l1), some (.int l2), none, none] [] h (some (.int (0 : Int32))) h3 := by
  refine xm_E_s r_X5_possible_0 rfl rfl ?_
  refine xm_E_cs [.int l0] [] r_X5_possible_1 rfl rfl rfl (Nat.le_of_ble_eq_true rfl) rfl q0 ?_
  refine xm_E_s (ls1 := [some (.int l0), some (.int l1), some (.int l2), some (.int r0), none]) r_X5_possible_2 rfl rfl ?_
  refine xm_E_s r_X5_possible_3 rfl rfl ?_
  refine xm_E_s r_X5_possible_4 rfl (xm_T_tab (11 : Int32) 23 rfl q1 (by decide) rfl) ?_
  refine xm_E_s r_X5_possible_23 rfl rfl ?_
  refine xm_E_cs [.int l0] [] r_X5_possible_24 rfl rfl rfl (Nat.le_of_ble_eq_true rfl) rfl q2 ?_
  refine xm_E_s (ls1 := [some (.int l0), some (.int l1), some (.int l2), some (.int r0), some (.int r1)]) r_X5_possible_25 rfl rfl ?_
  refine xm_E_s r_X5_possible_26 rfl rfl ?_
  refine xm_E_s r_X5_possible_27 rfl rfl ?_
  refine xm_E_s r_X5_possible_28 rfl rfl ?_
  refine xm_E_f q3 ?_
  refine xm_E_s r_X5_possible_29 rfl rfl ?_
  refine xm_E_s r_X5_possible_30 rfl rfl ?_
  refine xm_E_cs [.int l0] [.int r1] r_X5_possible_31 rfl rfl rfl (Nat.le_of_ble_eq_true rfl) rfl q4 ?_
  refine xm_E_s r_X5_possible_32 rfl rfl ?_
  refine xm_E_cs [.int r1, .int r2, .int l1] [] r_X5_possible_33 rfl rfl rfl (Nat.le_of_ble_eq_true rfl) rfl q5 ?_
  refine xm_E_s r_X5_possible_34 rfl rfl ?_
  refine xm_E_f q6 ?_
  refine xm_E_s r_X5_possible_37 rfl rfl ?_
  refine xm_E_s r_X5_possible_38 rfl (xm_T_lk 39 rfl (by rw [q7]; rfl)) ?_
  refine xm_E_s r_X5_possible_39 rfl rfl ?_
  refine xm_E_s r_X5_possible_40 rfl rfl ?_
  refine xm_E_s r_X5_possible_41 rfl rfl ?_
  refine xm_E_t q8 ?_
  refine xm_E_s r_X5_possible_44 rfl rfl ?_
  exact xm_E_iret r_X5_possible_45 rfl rfl
theorem p_X5_possible_0_16 {X : xm_X} {P : List xm_M} {d : Nat} {h : xm_H} {l0 : Int32} {l1 : Int32} {l2 : Int32} {h0 : xm_H} {r0 : Int32} {h1 : xm_H} {r1 : Int32} {h2 : xm_H} {r2 : Int32} {h3 : xm_H} {r3 : Int32} (q0 : xm_V X P d 42 [.int l0] h (some (.int r0)) h0) (q1 : l1 = (11 : Int32)) (q2 : xm_V X P d 38 [.int l0] h0 (some (.int r1)) h1) (q3 : ¬ (l2 < r1)) (q4 : xm_V X P d 39 [.int l0] h1 (some (.int r2)) h2) (q5 : xm_V X P d 48 [.int r1, .int r2, .int l1] h2 (some (.int r3)) h3) (q6 : ¬ (r3 = (0 : Int32))) (q7 : l1 = (10 : Int32)) (q8 : ¬ ((2 : Int32) ≤ r0)) : xm_E X P d co_X5_possible 0 [some (.int l0), some (.int l1), some (.int l2), none, none] [] h (some (.int (1 : Int32))) h3 := by
  refine xm_E_s r_X5_possible_0 rfl rfl ?_
  refine xm_E_cs [.int l0] [] r_X5_possible_1 rfl rfl rfl (Nat.le_of_ble_eq_true rfl) rfl q0 ?_
  refine xm_E_s (ls1 := [some (.int l0), some (.int l1), some (.int l2), some (.int r0), none]) r_X5_possible_2 rfl rfl ?_
  refine xm_E_s r_X5_possible_3 rfl rfl ?_
  refine xm_E_s r_X5_possible_4 rfl (xm_T_tab (11 : Int32) 23 rfl q1 (by decide) rfl) ?_
  refine xm_E_s r_X5_possible_23 rfl rfl ?_
  refine xm_E_cs [.int l0] [] r_X5_possible_24 rfl rfl rfl (Nat.le_of_ble_eq_true rfl) rfl q2 ?_
  refine xm_E_s (ls1 := [some (.int l0), some (.int l1), some (.int l2), some (.int r0), some (.int r1)]) r_X5_possible_25 rfl rfl ?_
  refine xm_E_s r_X5_possible_26 rfl rfl ?_
  refine xm_E_s r_X5_possible_27 rfl rfl ?_
  refine xm_E_s r_X5_possible_28 rfl rfl ?_
  refine xm_E_f q3 ?_
  refine xm_E_s r_X5_possible_29 rfl rfl ?_
  refine xm_E_s r_X5_possible_30 rfl rfl ?_
  refine xm_E_cs [.int l0] [.int r1] r_X5_possible_31 rfl rfl rfl (Nat.le_of_ble_eq_true rfl) rfl q4 ?_
  refine xm_E_s r_X5_possible_32 rfl rfl ?_
  refine xm_E_cs [.int r1, .int r2, .int l1] [] r_X5_possible_33 rfl rfl rfl (Nat.le_of_ble_eq_true rfl) rfl q5 ?_
  refine xm_E_s r_X5_possible_34 rfl rfl ?_
  refine xm_E_f q6 ?_
  refine xm_E_s r_X5_possible_37 rfl rfl ?_
  refine xm_E_s r_X5_possible_38 rfl (xm_T_lk 39 rfl (by rw [q7]; rfl)) ?_
  refine xm_E_s r_X5_possible_39 rfl rfl ?_
  refine xm_E_s r_X5_possible_40 rfl rfl ?_
  refine xm_E_s r_X5_possible_41 rfl rfl ?_
  refine xm_E_f q8 ?_
  refine xm_E_s r_X5_possible_42 rfl rfl ?_
  refine xm_E_s r_X5_possible_43 rfl rfl ?_
  exact xm_E_iret r_X5_possible_45 rfl rfl
theorem p_X5_possible_0_17 {X : xm_X} {P : List xm_M} {d : Nat} {h : xm_H} {l0 : Int32} {l1 : Int32} {l2 : Int32} {h0 : xm_H} {r0 : Int32} {h1 : xm_H} {r1 : Int32} {h2 : xm_H} {r2 : Int32} {h3 : xm_H} {r3 : Int32} (q0 : xm_V X P d 42 [.int l0] h (some (.int r0)) h0) (q1 : l1 = (11 : Int32)) (q2 : xm_V X P d 38 [.int l0] h0 (some (.int r1)) h1) (q3 : ¬ (l2 < r1)) (q4 : xm_V X P d 39 [.int l0] h1 (some (.int r2)) h2) (q5 : xm_V X P d 48 [.int r1, .int r2, .int l1] h2 (some (.int r3)) h3) (q6 : ¬ (r3 = (0 : Int32))) (q7 : r0 ≤ (-2 : Int32)) : xm_E X P d co_X5_possible 0 [some (.int l0), some (.int l1), some (.int l2), none, none] [] h (some (.int (0 : Int32))) h3 := by
  refine xm_E_s r_X5_possible_0 rfl rfl ?_
  refine xm_E_cs [.int l0] [] r_X5_possible_1 rfl rfl rfl (Nat.le_of_ble_eq_true rfl) rfl q0 ?_
  refine xm_E_s (ls1 := [some (.int l0), some (.int l1), some (.int l2), some (.int r0), none]) r_X5_possible_2 rfl rfl ?_
  refine xm_E_s r_X5_possible_3 rfl rfl ?_
  refine xm_E_s r_X5_possible_4 rfl (xm_T_tab (11 : Int32) 23 rfl q1 (by decide) rfl) ?_
  refine xm_E_s r_X5_possible_23 rfl rfl ?_
  refine xm_E_cs [.int l0] [] r_X5_possible_24 rfl rfl rfl (Nat.le_of_ble_eq_true rfl) rfl q2 ?_
  refine xm_E_s (ls1 := [some (.int l0), some (.int l1), some (.int l2), some (.int r0), some (.int r1)]) r_X5_possible_25 rfl rfl ?_
  refine xm_E_s r_X5_possible_26 rfl rfl ?_
  refine xm_E_s r_X5_possible_27 rfl rfl ?_
  refine xm_E_s r_X5_possible_28 rfl rfl ?_
  refine xm_E_f q3 ?_
  refine xm_E_s r_X5_possible_29 rfl rfl ?_
  refine xm_E_s r_X5_possible_30 rfl rfl ?_
  refine xm_E_cs [.int l0] [.int r1] r_X5_possible_31 rfl rfl rfl (Nat.le_of_ble_eq_true rfl) rfl q4 ?_
  refine xm_E_s r_X5_possible_32 rfl rfl ?_
  refine xm_E_cs [.int r1, .int r2, .int l1] [] r_X5_possible_33 rfl rfl rfl (Nat.le_of_ble_eq_true rfl) rfl q5 ?_
  refine xm_E_s r_X5_possible_34 rfl rfl ?_
  refine xm_E_f q6 ?_
  refine xm_E_s r_X5_possible_37 rfl rfl ?_
  refine xm_E_s r_X5_possible_38 rfl (xm_T_lk 46 rfl (by rw [q1]; rfl)) ?_
  refine xm_E_s r_X5_possible_46 rfl rfl ?_
  refine xm_E_s r_X5_possible_47 rfl rfl ?_
  refine xm_E_s r_X5_possible_48 rfl rfl ?_
  refine xm_E_t q7 ?_
  refine xm_E_s r_X5_possible_51 rfl rfl ?_
  exact xm_E_iret r_X5_possible_52 rfl rfl
theorem p_X5_possible_0_18 {X : xm_X} {P : List xm_M} {d : Nat} {h : xm_H} {l0 : Int32} {l1 : Int32} {l2 : Int32} {h0 : xm_H} {r0 : Int32} {h1 : xm_H} {r1 : Int32} {h2 : xm_H} {r2 : Int32} {h3 : xm_H} {r3 : Int32} (q0 : xm_V X P d 42 [.int l0] h (some (.int r0)) h0) (q1 : l1 = (11 : Int32)) (q2 : xm_V X P d 38 [.int l0] h0 (some (.int r1)) h1) (q3 : ¬ (l2 < r1)) (q4 : xm_V X P d 39 [.int l0] h1 (some (.int r2)) h2) (q5 : xm_V X P d 48 [.int r1, .int r2, .int l1] h2 (some (.int r3)) h3) (q6 : ¬ (r3 = (0 : Int32))) (q7 : ¬ (r0 ≤ (-2 : Int32))) : xm_E X P d co_X5_possible 0 [some (.int l0), some (.int l1), some (.int l2), none, none] [] h (some (.int (1 : Int32))) h3 := by
  refine xm_E_s r_X5_possible_0 rfl rfl ?_
  refine xm_E_cs [.int l0] [] r_X5_possible_1 rfl rfl rfl (Nat.le_of_ble_eq_true rfl) rfl q0 ?_
  refine xm_E_s (ls1 := [some (.int l0), some (.int l1), some (.int l2), some (.int r0), none]) r_X5_possible_2 rfl rfl ?_
  refine xm_E_s r_X5_possible_3 rfl rfl ?_
  refine xm_E_s r_X5_possible_4 rfl (xm_T_tab (11 : Int32) 23 rfl q1 (by decide) rfl) ?_
  refine xm_E_s r_X5_possible_23 rfl rfl ?_
  refine xm_E_cs [.int l0] [] r_X5_possible_24 rfl rfl rfl (Nat.le_of_ble_eq_true rfl) rfl q2 ?_
  refine xm_E_s (ls1 := [some (.int l0), some (.int l1), some (.int l2), some (.int r0), some (.int r1)]) r_X5_possible_25 rfl rfl ?_
  refine xm_E_s r_X5_possible_26 rfl rfl ?_
  refine xm_E_s r_X5_possible_27 rfl rfl ?_
  refine xm_E_s r_X5_possible_28 rfl rfl ?_
  refine xm_E_f q3 ?_
  refine xm_E_s r_X5_possible_29 rfl rfl ?_
  refine xm_E_s r_X5_possible_30 rfl rfl ?_
  refine xm_E_cs [.int l0] [.int r1] r_X5_possible_31 rfl rfl rfl (Nat.le_of_ble_eq_true rfl) rfl q4 ?_
  refine xm_E_s r_X5_possible_32 rfl rfl ?_
  refine xm_E_cs [.int r1, .int r2, .int l1] [] r_X5_possible_33 rfl rfl rfl (Nat.le_of_ble_eq_true rfl) rfl q5 ?_
  refine xm_E_s r_X5_possible_34 rfl rfl ?_
  refine xm_E_f q6 ?_
  refine xm_E_s r_X5_possible_37 rfl rfl ?_
  refine xm_E_s r_X5_possible_38 rfl (xm_T_lk 46 rfl (by rw [q1]; rfl)) ?_
  refine xm_E_s r_X5_possible_46 rfl rfl ?_
  refine xm_E_s r_X5_possible_47 rfl rfl ?_
  refine xm_E_s r_X5_possible_48 rfl rfl ?_
  refine xm_E_f q7 ?_
  refine xm_E_s r_X5_possible_49 rfl rfl ?_
  refine xm_E_s r_X5_possible_50 rfl rfl ?_
  exact xm_E_iret r_X5_possible_52 rfl rfl
theorem p_X5_possible_0_19 {X : xm_X} {P : List xm_M} {d : Nat} {h : xm_H} {l0 : Int32} {l1 : Int32} {l2 : Int32} {h0 : xm_H} {r0 : Int32} {h1 : xm_H} {r1 : Int32} {h2 : xm_H} {r2 : Int32} {h3 : xm_H} {r3 : Int32} (q0 : xm_V X P d 42 [.int l0] h (some (.int r0)) h0) (q1 : l1 = (11 : Int32)) (q2 : xm_V X P d 38 [.int l0] h0 (some (.int r1)) h1) (q3 : ¬ (l2 < r1)) (q4 : xm_V X P d 39 [.int l0] h1 (some (.int r2)) h2) (q5 : xm_V X P d 48 [.int r1, .int r2, .int l1] h2 (some (.int r3)) h3) (q6 : ¬ (r3 = (0 : Int32))) (q7 : ¬ (10 : Int) = l1.toInt) (q8 : ¬ (11 : Int) = l1.toInt) (q9 : r0 = (0 : Int32)) : xm_E X P d co_X5_possible 0 [some (.int l0), some (.int l1), some (.int l2), none, none] [] h (some (.int (1 : Int32))) h3 := by
  refine xm_E_s r_X5_possible_0 rfl rfl ?_
  refine xm_E_cs [.int l0] [] r_X5_possible_1 rfl rfl rfl (Nat.le_of_ble_eq_true rfl) rfl q0 ?_
  refine xm_E_s (ls1 := [some (.int l0), some (.int l1), some (.int l2), some (.int r0), none]) r_X5_possible_2 rfl rfl ?_
  refine xm_E_s r_X5_possible_3 rfl rfl ?_
  refine xm_E_s r_X5_possible_4 rfl (xm_T_tab (11 : Int32) 23 rfl q1 (by decide) rfl) ?_
  refine xm_E_s r_X5_possible_23 rfl rfl ?_
  refine xm_E_cs [.int l0] [] r_X5_possible_24 rfl rfl rfl (Nat.le_of_ble_eq_true rfl) rfl q2 ?_
  refine xm_E_s (ls1 := [some (.int l0), some (.int l1), some (.int l2), some (.int r0), some (.int r1)]) r_X5_possible_25 rfl rfl ?_
  refine xm_E_s r_X5_possible_26 rfl rfl ?_
  refine xm_E_s r_X5_possible_27 rfl rfl ?_
  refine xm_E_s r_X5_possible_28 rfl rfl ?_
  refine xm_E_f q3 ?_
  refine xm_E_s r_X5_possible_29 rfl rfl ?_
  refine xm_E_s r_X5_possible_30 rfl rfl ?_
  refine xm_E_cs [.int l0] [.int r1] r_X5_possible_31 rfl rfl rfl (Nat.le_of_ble_eq_true rfl) rfl q4 ?_
  refine xm_E_s r_X5_possible_32 rfl rfl ?_
  refine xm_E_cs [.int r1, .int r2, .int l1] [] r_X5_possible_33 rfl rfl rfl (Nat.le_of_ble_eq_true rfl) rfl q5 ?_
  refine xm_E_s r_X5_possible_34 rfl rfl ?_
  refine xm_E_f q6 ?_
  refine xm_E_s r_X5_possible_37 rfl rfl ?_
  refine xm_E_s r_X5_possible_38 rfl (xm_T_lk 53 rfl (by show (if (10 : Int) = l1.toInt then (39 : Nat) else (if (11 : Int) = l1.toInt then (46 : Nat) else 53)) = _; rw [if_neg q7, if_neg q8])) ?_
  refine xm_E_s r_X5_possible_53 rfl rfl ?_
  refine xm_E_s r_X5_possible_54 rfl rfl ?_
  refine xm_E_t q9 ?_
  refine xm_E_s r_X5_possible_55 rfl rfl ?_
  refine xm_E_s r_X5_possible_56 rfl rfl ?_
  exact xm_E_iret r_X5_possible_58 rfl rfl
theorem p_X5_possible_0_20 {X : xm_X} {P : List xm_M} {d : Nat} {h : xm_H} {l0 : Int32} {l1 : Int32} {l2 : Int32} {h0 : xm_H} {r0 : Int32} {h1 : xm_H} {r1 : Int32} {h2 : xm_H} {r2 : Int32} {h3 : xm_H} {r3 : Int32} (q0 : xm_V X P d 42 [.int l0] h (some (.int r0)) h0) (q1 : l1 = (11 : Int32)) (q2 : xm_V X P d 38 [.int l0] h0 (some (.int r1)) h1) (q3 : ¬ (l2 < r1)) (q4 : xm_V X P d 39 [.int l0] h1 (some (.int r2)) h2) (q5 : xm_V X P d 48 [.int r1, .int r2, .int l1] h2 (some (.int r3)) h3) (q6 : ¬ (r3 = (0 : Int32))) (q7 : ¬ (10 : Int) = l1.toInt) (q8 : ¬ (11 : Int) = l1.toInt) (q9 : ¬ (r0 = (0 : Int32))) : xm_E X P d co_X5_possible 0 [some (.int l0), some (.int l1), some (.int l2), none, none] [] h (some (.int (0 : Int32))) h3 := by
  refine xm_E_s r_X5_possible_0 rfl rfl ?_
  refine xm_E_cs [.int l0] [] r_X5_possible_1 rfl rfl rfl (Nat.le_of_ble_eq_true rfl) rfl q0 ?_
  refine xm_E_s (ls1 := [some (.int l0), some (.int l1), some (.int l2), some (.int r0), none]) r_X5_possible_2 rfl rfl ?_
  refine xm_E_s r_X5_possible_3 rfl rfl ?_
  refine xm_E_s r_X5_possible_4 rfl (xm_T_tab (11 : Int32) 23 rfl q1 (by decide) rfl) ?_
  refine xm_E_s r_X5_possible_23 rfl rfl ?_
  refine xm_E_cs [.int l0] [] r_X5_possible_24 rfl rfl rfl (Nat.le_of_ble_eq_true rfl) rfl q2 ?_
  refine xm_E_s (ls1 := [some (.int l0), some (.int l1), some (.int l2), some (.int r0), some (.int r1)]) r_X5_possible_25 rfl rfl ?_
  refine xm_E_s r_X5_possible_26 rfl rfl ?_
  refine xm_E_s r_X5_possible_27 rfl rfl ?_
  refine xm_E_s r_X5_possible_28 rfl rfl ?_
  refine xm_E_f q3 ?_
  refine xm_E_s r_X5_possible_29 rfl rfl ?_
  refine xm_E_s r_X5_possible_30 rfl rfl ?_
  refine xm_E_cs [.int l0] [.int r1] r_X5_possible_31 rfl rfl rfl (Nat.le_of_ble_eq_true rfl) rfl q4 ?_
  refine xm_E_s r_X5_possible_32 rfl rfl ?_
  refine xm_E_cs [.int r1, .int r2, .int l1] [] r_X5_possible_33 rfl rfl rfl (Nat.le_of_ble_eq_true rfl) rfl q5 ?_
  refine xm_E_s r_X5_possible_34 rfl rfl ?_
  refine xm_E_f q6 ?_
  refine xm_E_s r_X5_possible_37 rfl rfl ?_
  refine xm_E_s r_X5_possible_38 rfl (xm_T_lk 53 rfl (by show (if (10 : Int) = l1.toInt then (39 : Nat) else (if (11 : Int) = l1.toInt then (46 : Nat) else 53)) = _; rw [if_neg q7, if_neg q8])) ?_
  refine xm_E_s r_X5_possible_53 rfl rfl ?_
  refine xm_E_s r_X5_possible_54 rfl rfl ?_
  refine xm_E_f q9 ?_
  refine xm_E_s r_X5_possible_57 rfl rfl ?_
  exact xm_E_iret r_X5_possible_58 rfl rfl
theorem p_X5_possible_0_21 {X : xm_X} {P : List xm_M} {d : Nat} {h : xm_H} {l0 : Int32} {l1 : Int32} {l2 : Int32} {h0 : xm_H} {r0 : Int32} (q0 : xm_V X P d 42 [.int l0] h (some (.int r0)) h0) (q1 : l1 = (12 : Int32)) : xm_E X P d co_X5_possible 0 [some (.int l0), some (.int l1), some (.int l2), none, none] [] h (some (.int (1 : Int32))) h0 := by
  refine xm_E_s r_X5_possible_0 rfl rfl ?_
  refine xm_E_cs [.int l0] [] r_X5_possible_1 rfl rfl rfl (Nat.le_of_ble_eq_true rfl) rfl q0 ?_
  refine xm_E_s (ls1 := [some (.int l0), some (.int l1), some (.int l2), some (.int r0), none]) r_X5_possible_2 rfl rfl ?_
  refine xm_E_s r_X5_possible_3 rfl rfl ?_
  refine xm_E_s r_X5_possible_4 rfl (xm_T_tab (12 : Int32) 5 rfl q1 (by decide) rfl) ?_
  refine xm_E_s r_X5_possible_5 rfl rfl ?_
  exact xm_E_iret r_X5_possible_6 rfl rfl
theorem p_X5_possible_0_22 {X : xm_X} {P : List xm_M} {d : Nat} {h : xm_H} {l0 : Int32} {l1 : Int32} {l2 : Int32} {h0 : xm_H} {r0 : Int32} {h1 : xm_H} {r1 : Int32} (q0 : xm_V X P d 42 [.int l0] h (some (.int r0)) h0) (q1 : l1.toInt < 8 ∨ 12 < l1.toInt) (q2 : xm_V X P d 38 [.int l0] h0 (some (.int r1)) h1) (q3 : l2 < r1) : xm_E X P d co_X5_possible 0 [some (.int l0), some (.int l1), some (.int l2), none, none] [] h (some (.int (0 : Int32))) h1 := by
  refine xm_E_s r_X5_possible_0 rfl rfl ?_
  refine xm_E_cs [.int l0] [] r_X5_possible_1 rfl rfl rfl (Nat.le_of_ble_eq_true rfl) rfl q0 ?_
  refine xm_E_s (ls1 := [some (.int l0), some (.int l1), some (.int l2), some (.int r0), none]) r_X5_possible_2 rfl rfl ?_
  refine xm_E_s r_X5_possible_3 rfl rfl ?_
  refine xm_E_s r_X5_possible_4 rfl (xm_T_tabd rfl q1) ?_
  refine xm_E_s r_X5_possible_23 rfl rfl ?_
  refine xm_E_cs [.int l0] [] r_X5_possible_24 rfl rfl rfl (Nat.le_of_ble_eq_true rfl) rfl q2 ?_
  refine xm_E_s (ls1 := [some (.int l0), some (.int l1), some (.int l2), some (.int r0), some (.int r1)]) r_X5_possible_25 rfl rfl ?_
  refine xm_E_s r_X5_possible_26 rfl rfl ?_
  refine xm_E_s r_X5_possible_27 rfl rfl ?_
  refine xm_E_s r_X5_possible_28 rfl rfl ?_
  refine xm_E_t q3 ?_
  refine xm_E_s r_X5_possible_35 rfl rfl ?_
  exact xm_E_iret r_X5_possible_36 rfl rfl
theorem p_X5_possible_0_23 {X : xm_X} {P : List xm_M} {d : Nat} {h : xm_H} {l0 : Int32} {l1 : Int32} {l2 : Int32} {h0 : xm_H} {r0 : Int32} {h1 : xm_H} {r1 : Int32} {h2 : xm_H} {r2 : Int32} {h3 : xm_H} {r3 : Int32} (q0 : xm_V X P d 42 [.int l0] h (some (.int r0)) h0) (q1 : l1.toInt < 8 ∨ 12 < l1.toInt) (q2 : xm_V X P d 38 [.int l0] h0 (some (.int r1)) h1) (q3 : ¬ (l2 < r1)) (q4 : xm_V X P d 39 [.int l0] h1 (some (.int r2)) h2) (q5 : xm_V X P d 48 [.int r1, .int r2, .int l1] h2 (some (.int r3)) h3) (q6 : r3 = (0 : Int32)) : xm_E X P d co_X5_possible 0 [some (.int l0), some (.int l1), some (.int l2), none, none] [] h (some (.int (0 : Int32))) h3 := by
  refine xm_E_s r_X5_possible_0 rfl rfl ?_
  refine xm_E_cs [.int l0] [] r_X5_possible_1 rfl rfl rfl (Nat.le_of_ble_eq_true rfl) rfl q0 ?_
  refine xm_E_s (ls1 := [some (.int l0), some (.int l1), some (.int l2), some (.int r0), none]) r_X5_possible_2 rfl rfl ?_
  refine xm_E_s r_X5_possible_3 rfl rfl ?_
  refine xm_E_s r_X5_possible_4 rfl (xm_T_tabd rfl q1) ?_
  refine xm_E_s r_X5_possible_23 rfl rfl ?_
  refine xm_E_cs [.int l0] [] r_X5_possible_24 rfl rfl rfl (Nat.le_of_ble_eq_true rfl) rfl q2 ?_
  refine xm_E_s (ls1 := [some (.int l0), some (.int l1), some (.int l2), some (.int r0), some (.int r1)]) r_X5_possible_25 rfl rfl ?_
  refine xm_E_s r_X5_possible_26 rfl rfl ?_
  refine xm_E_s r_X5_possible_27 rfl rfl ?_
  refine xm_E_s r_X5_possible_28 rfl rfl ?_
  refine xm_E_f q3 ?_
  refine xm_E_s r_X5_possible_29 rfl rfl ?_
  refine xm_E_s r_X5_possible_30 rfl rfl ?_
  refine xm_E_cs [.int l0] [.int r1] r_X5_possible_31 rfl rfl rfl (Nat.le_of_ble_eq_true rfl) rfl q4 ?_
  refine xm_E_s r_X5_possible_32 rfl rfl ?_
  refine xm_E_cs [.int r1, .int r2, .int l1] [] r_X5_possible_33 rfl rfl rfl (Nat.le_of_ble_eq_true rfl) rfl q5 ?_
  refine xm_E_s r_X5_possible_34 rfl rfl ?_
  refine xm_E_t q6 ?_
  refine xm_E_s r_X5_possible_35 rfl rfl ?_
  exact xm_E_iret r_X5_possible_36 rfl rfl
theorem p_X5_possible_0_24 {X : xm_X} {P : List xm_M} {d : Nat} {h : xm_H} {l0 : Int32} {l1 : Int32} {l2 : Int32} {h0 : xm_H} {r0 : Int32} {h1 : xm_H} {r1 : Int32} {h2 : xm_H} {r2 : Int32} {h3 : xm_H} {r3 : Int32} (q0 : xm_V X P d 42 [.int l0] h (some (.int r0)) h0) (q1 : l1.toInt < 8 ∨ 12 < l1.toInt) (q2 : xm_V X P d 38 [.int l0] h0 (some (.int r1)) h1) (q3 : ¬ (l2 < r1)) (q4 : xm_V X P d 39 [.int l0] h1 (some (.int r2)) h2) (q5 : xm_V X P d 48 [.int r1, .int r2, .int l1] h2 (some (.int r3)) h3) (q6 : ¬ (r3 = (0 : Int32))) (q7 : l1 = (10 : Int32)) (q8 : (2 : Int32) ≤ r0) : xm_E X P d co_X5_possible 0 [some (.int l0), some (.int l1), some (.int l2), none, none] [] h (some (.int (0 : Int32))) h3 := by
  refine xm_E_s r_X5_possible_0 rfl rfl ?_
  refine xm_E_cs [.int l0] [] r_X5_possible_1 rfl rfl rfl (Nat.le_of_ble_eq_true rfl) rfl q0 ?_
  refine xm_E_s (ls1 := [some (.int l0), some (.int l1), some (.int l2), some (.int r0), none]) r_X5_possible_2 rfl rfl ?_
  refine xm_E_s r_X5_possible_3 rfl rfl ?_
  refine xm_E_s r_X5_possible_4 rfl (xm_T_tabd rfl q1) ?_
  refine xm_E_s r_X5_possible_23 rfl rfl ?_
  refine xm_E_cs [.int l0] [] r_X5_possible_24 rfl rfl rfl (Nat.le_of_ble_eq_true rfl) rfl q2 ?_
  refine xm_E_s (ls1 := [some (.int l0), some (.int l1), some (.int l2), some (.int r0), some (.int r1)]) r_X5_possible_25 rfl rfl ?_
  refine xm_E_s r_X5_possible_26 rfl rfl ?_
  refine xm_E_s r_X5_possible_27 rfl rfl ?_
  refine xm_E_s r_X5_possible_28 rfl rfl ?_
  refine xm_E_f q3 ?_
  refine xm_E_s r_X5_possible_29 rfl rfl ?_
  refine xm_E_s r_X5_possible_30 rfl rfl ?_
  refine xm_E_cs [.int l0] [.int r1] r_X5_possible_31 rfl rfl rfl (Nat.le_of_ble_eq_true rfl) rfl q4 ?_
  refine xm_E_s r_X5_possible_32 rfl rfl ?_
  refine xm_E_cs [.int r1, .int r2, .int l1] [] r_X5_possible_33 rfl rfl rfl (Nat.le_of_ble_eq_true rfl) rfl q5 ?_
  refine xm_E_s r_X5_possible_34 rfl rfl ?_
  refine xm_E_f q6 ?_
  refine xm_E_s r_X5_possible_37 rfl rfl ?_
  refine xm_E_s r_X5_possible_38 rfl (xm_T_lk 39 rfl (by rw [q7]; rfl)) ?_
  refine xm_E_s r_X5_possible_39 rfl rfl ?_
  refine xm_E_s r_X5_possible_40 rfl rfl ?_
  refine xm_E_s r_X5_possible_41 rfl rfl ?_
  refine xm_E_t q8 ?_
  refine xm_E_s r_X5_possible_44 rfl rfl ?_
  exact xm_E_iret r_X5_possible_45 rfl rfl
theorem p_X5_possible_0_25 {X : xm_X} {P : List xm_M} {d : Nat} {h : xm_H} {l0 : Int32} {l1 : Int32} {l2 : Int32} {h0 : xm_H} {r0 : Int32} {h1 : xm_H} {r1 : Int32} {h2 : xm_H} {r2 : Int32} {h3 : xm_H} {r3 : Int32} (q0 : xm_V X P d 42 [.int l0] h (some (.int r0)) h0) (q1 : l1.toInt < 8 ∨ 12 < l1.toInt) (q2 : xm_V X P d 38 [.int l0] h0 (some (.int r1)) h1) (q3 : ¬ (l2 < r1)) (q4 : xm_V X P d 39 [.int l0] h1 (some (.int r2)) h2) (q5 : xm_V X P d 48 [.int r1, .int r2, .int l1] h2 (some (.int r3)) h3) (q6 : ¬ (r3 = (0 : Int32))) (q7 : l1 = (10 : Int32)) (q8 : ¬ ((2 : Int32) ≤ r0)) : xm_E X P d co_X5_possible 0 [some (.int l0), some (.int l1), some (.int l2), none, none] [] h (some (.int (1 : Int32))) h3 := by
  refine xm_E_s r_X5_possible_0 rfl rfl ?_
  refine xm_E_cs [.int l0] [] r_X5_possible_1 rfl rfl rfl (Nat.le_of_ble_eq_true rfl) rfl q0 ?_
  refine xm_E_s (ls1 := [some (.int l0), some (.int l1), some (.int l2), some (.int r0), none]) r_X5_possible_2 rfl rfl ?_
  refine xm_E_s r_X5_possible_3 rfl rfl ?_
  refine xm_E_s r_X5_possible_4 rfl (xm_T_tabd rfl q1) ?_
  refine xm_E_s r_X5_possible_23 rfl rfl ?_
  refine xm_E_cs [.int l0] [] r_X5_possible_24 rfl rfl rfl (Nat.le_of_ble_eq_true rfl) rfl q2 ?_
  refine xm_E_s (ls1 := [some (.int l0), some (.int l1), some (.int l2), some (.int r0), some (.int r1)]) r_X5_possible_25 rfl rfl ?_
  refine xm_E_s r_X5_possible_26 rfl rfl ?_
  refine xm_E_s r_X5_possible_27 rfl rfl ?_
  refine xm_E_s r_X5_possible_28 rfl rfl ?_
  refine xm_E_f q3 ?_
  refine xm_E_s r_X5_possible_29 rfl rfl ?_
  refine xm_E_s r_X5_possible_30 rfl rfl ?_
  refine xm_E_cs [.int l0] [.int r1] r_X5_possible_31 rfl rfl rfl (Nat.le_of_ble_eq_true rfl) rfl q4 ?_
  refine xm_E_s r_X5_possible_32 rfl rfl ?_
  refine xm_E_cs [.int r1, .int r2, .int l1] [] r_X5_possible_33 rfl rfl rfl (Nat.le_of_ble_eq_true rfl) rfl q5 ?_
  refine xm_E_s r_X5_possible_34 rfl rfl ?_
  refine xm_E_f q6 ?_
  refine xm_E_s r_X5_possible_37 rfl rfl ?_
  refine xm_E_s r_X5_possible_38 rfl (xm_T_lk 39 rfl (by rw [q7]; rfl)) ?_
  refine xm_E_s r_X5_possible_39 rfl rfl ?_
  refine xm_E_s r_X5_possible_40 rfl rfl ?_
  refine xm_E_s r_X5_possible_41 rfl rfl ?_
  refine xm_E_f q8 ?_
  refine xm_E_s r_X5_possible_42 rfl rfl ?_
  refine xm_E_s r_X5_possible_43 rfl rfl ?_
  exact xm_E_iret r_X5_possible_45 rfl rfl
theorem p_X5_possible_0_26 {X : xm_X} {P : List xm_M} {d : Nat} {h : xm_H} {l0 : Int32} {l1 : Int32} {l2 : Int32} {h0 : xm_H} {r0 : Int32} {h1 : xm_H} {r1 : Int32} {h2 : xm_H} {r2 : Int32} {h3 : xm_H} {r3 : Int32} (q0 : xm_V X P d 42 [.int l0] h (some (.int r0)) h0) (q1 : l1.toInt < 8 ∨ 12 < l1.toInt) (q2 : xm_V X P d 38 [.int l0] h0 (some (.int r1)) h1) (q3 : ¬ (l2 < r1)) (q4 : xm_V X P d 39 [.int l0] h1 (some (.int r2)) h2) (q5 : xm_V X P d 48 [.int r1, .int r2, .int l1] h2 (some (.int r3)) h3) (q6 : ¬ (r3 = (0 : Int32))) (q7 : l1 = (11 : Int32)) (q8 : r0 ≤ (-2 : Int32)) : xm_E X P d co_X5_possible 0 [some (.int l0), some (.int l1), some (.int l2), none, none] [] h (some (.int (0 : Int32))) h3 := by
  refine xm_E_s r_X5_possible_0 rfl rfl ?_
  refine xm_E_cs [.int l0] [] r_X5_possible_1 rfl rfl rfl (Nat.le_of_ble_eq_true rfl) rfl q0 ?_
  refine xm_E_s (ls1 := [some (.int l0), some (.int l1), some (.int l2), some (.int r0), none]) r_X5_possible_2 rfl rfl ?_
  refine xm_E_s r_X5_possible_3 rfl rfl ?_
  refine xm_E_s r_X5_possible_4 rfl (xm_T_tabd rfl q1) ?_
  refine xm_E_s r_X5_possible_23 rfl rfl ?_
  refine xm_E_cs [.int l0] [] r_X5_possible_24 rfl rfl rfl (Nat.le_of_ble_eq_true rfl) rfl q2 ?_
  refine xm_E_s (ls1 := [some (.int l0), some (.int l1), some (.int l2), some (.int r0), some (.int r1)]) r_X5_possible_25 rfl rfl ?_
  refine xm_E_s r_X5_possible_26 rfl rfl ?_
  refine xm_E_s r_X5_possible_27 rfl rfl ?_
  refine xm_E_s r_X5_possible_28 rfl rfl ?_
  refine xm_E_f q3 ?_
  refine xm_E_s r_X5_possible_29 rfl rfl ?_
  refine xm_E_s r_X5_possible_30 rfl rfl ?_
  refine xm_E_cs [.int l0] [.int r1] r_X5_possible_31 rfl rfl rfl (Nat.le_of_ble_eq_true rfl) rfl q4 ?_
  refine xm_E_s r_X5_possible_32 rfl rfl ?_
  refine xm_E_cs [.int r1, .int r2, .int l1] [] r_X5_possible_33 rfl rfl rfl (Nat.le_of_ble_eq_true rfl) rfl q5 ?_
  refine xm_E_s r_X5_possible_34 rfl rfl ?_
  refine xm_E_f q6 ?_
  refine xm_E_s r_X5_possible_37 rfl rfl ?_
  refine xm_E_s r_X5_possible_38 rfl (xm_T_lk 46 rfl (by rw [q7]; rfl)) ?_
  refine xm_E_s r_X5_possible_46 rfl rfl ?_
  refine xm_E_s r_X5_possible_47 rfl rfl ?_
  refine xm_E_s r_X5_possible_48 rfl rfl ?_
  refine xm_E_t q8 ?_
  refine xm_E_s r_X5_possible_51 rfl rfl ?_
  exact xm_E_iret r_X5_possible_52 rfl rfl
theorem p_X5_possible_0_27 {X : xm_X} {P : List xm_M} {d : Nat} {h : xm_H} {l0 : Int32} {l1 : Int32} {l2 : Int32} {h0 : xm_H} {r0 : Int32} {h1 : xm_H} {r1 : Int32} {h2 : xm_H} {r2 : Int32} {h3 : xm_H} {r3 : Int32} (q0 : xm_V X P d 42 [.int l0] h (some (.int r0)) h0) (q1 : l1.toInt < 8 ∨ 12 < l1.toInt) (q2 : xm_V X P d 38 [.int l0] h0 (some (.int r1)) h1) (q3 : ¬ (l2 < r1)) (q4 : xm_V X P d 39 [.int l0] h1 (some (.int r2)) h2) (q5 : xm_V X P d 48 [.int r1, .int r2, .int l1] h2 (some (.int r3)) h3) (q6 : ¬ (r3 = (0 : Int32))) (q7 : l1 = (11 : Int32)) (q8 : ¬ (r0 ≤ (-2 : Int32))) : xm_E X P d co_X5_possible 0 [some (.int l0), some (.int l1), some (.int l2), none, none] [] h (some (.int (1 : Int32))) h3 := by
  refine xm_E_s r_X5_possible_0 rfl rfl ?_
  refine xm_E_cs [.int l0] [] r_X5_possible_1 rfl rfl rfl (Nat.le_of_ble_eq_true rfl) rfl q0 ?_
  refine xm_E_s (ls1 := [some (.int l0), some (.int l1), some (.int l2), some (.int r0), none]) r_X5_possible_2 rfl rfl ?_
  refine xm_E_s r_X5_possible_3 rfl rfl ?_
  refine xm_E_s r_X5_possible_4 rfl (xm_T_tabd rfl q1) ?_
  refine xm_E_s r_X5_possible_23 rfl rfl ?_
  refine xm_E_cs [.int l0] [] r_X5_possible_24 rfl rfl rfl (Nat.le_of_ble_eq_true rfl) rfl q2 ?_
  refine xm_E_s (ls1 := [some (.int l0), some (.int l1), some (.int l2), some (.int r0), some (.int r1)]) r_X5_possible_25 rfl rfl ?_
  refine xm_E_s r_X5_possible_26 rfl rfl ?_
  refine xm_E_s r_X5_possible_27 rfl rfl ?_
  refine xm_E_s r_X5_possible_28 rfl rfl ?_
  refine xm_E_f q3 ?_
  refine xm_E_s r_X5_possible_29 rfl rfl ?_
  refine xm_E_s r_X5_possible_30 rfl rfl ?_
  refine xm_E_cs [.int l0] [.int r1] r_X5_possible_31 rfl rfl rfl (Nat.le_of_ble_eq_true rfl) rfl q4 ?_
  refine xm_E_s r_X5_possible_32 rfl rfl ?_
  refine xm_E_cs [.int r1, .int r2, .int l1] [] r_X5_possible_33 rfl rfl rfl (Nat.le_of_ble_eq_true rfl) rfl q5 ?_
  refine xm_E_s r_X5_possible_34 rfl rfl ?_
  refine xm_E_f q6 ?_
  refine xm_E_s r_X5_possible_37 rfl rfl ?_
  refine xm_E_s r_X5_possible_38 rfl (xm_T_lk 46 rfl (by rw [q7]; rfl)) ?_
  refine xm_E_s r_X5_possible_46 rfl rfl ?_
  refine xm_E_s r_X5_possible_47 rfl rfl ?_
  refine xm_E_s r_X5_possible_48 rfl rfl ?_
  refine xm_E_f q8 ?_
  refine xm_E_s r_X5_possible_49 rfl rfl ?_
  refine xm_E_s r_X5_possible_50 rfl rfl ?_
  exact xm_E_iret r_X5_possible_52 rfl rfl
theorem p_X5_possible_0_28 {X : xm_X} {P : List xm_M} {d : Nat} {h : xm_H} {l0 : Int32} {l1 : Int32} {l2 : Int32} {h0 : xm_H} {r0 : Int32} {h1 : xm_H} {r1 : Int32} {h2 : xm_H} {r2 : Int32} {h3 : xm_H} {r3 : Int32} (q0 : xm_V X P d 42 [.int l0] h (some (.int r0)) h0) (q1 : l1.toInt < 8 ∨ 12 < l1.toInt) (q2 : xm_V X P d 38 [.int l0] h0 (some (.int r1)) h1) (q3 : ¬ (l2 < r1)) (q4 : xm_V X P d 39 [.int l0] h1 (some (.int r2)) h2) (q5 : xm_V X P d 48 [.int r1, .int r2, .int l1] h2 (some (.int r3)) h3) (q6 : ¬ (r3 = (0 : Int32))) (q7 : ¬ (10 : Int) = l1.toInt) (q8 : ¬ (11 : Int) = l1.toInt) (q9 : r0 = (0 : Int32)) : xm_E X P d co_X5_possible 0 [some (.int l0), some (.int l1), some (.int l2), none, none] [] h (some (.int (1 : Int32))) h3 := by
  refine xm_E_s r_X5_possible_0 rfl rfl ?_
  refine xm_E_cs [.int l0] [] r_X5_possible_1 rfl rfl rfl (Nat.le_of_ble_eq_true rfl) rfl q0 ?_
  refine xm_E_s (ls1 := [some (.int l0), some (.int l1), some (.int l2), some (.int r0), none]) r_X5_possible_2 rfl rfl ?_
  refine xm_E_s r_X5_possible_3 rfl rfl ?_
  refine xm_E_s r_X5_possible_4 rfl (xm_T_tabd rfl q1) ?_
  refine xm_E_s r_X5_possible_23 rfl rfl ?_
  refine xm_E_cs [.int l0] [] r_X5_possible_24 rfl rfl rfl (Nat.le_of_ble_eq_true rfl) rfl q2 ?_
  refine xm_E_s (ls1 := [some (.int l0), some (.int l1), some (.int l2), some (.int r0), some (.int r1)]) r_X5_possible_25 rfl rfl ?_
  refine xm_E_s r_X5_possible_26 rfl rfl ?_
  refine xm_E_s r_X5_possible_27 rfl rfl ?_
  refine xm_E_s r_X5_possible_28 rfl rfl ?_
  refine xm_E_f q3 ?_
  refine xm_E_s r_X5_possible_29 rfl rfl ?_
  refine xm_E_s r_X5_possible_30 rfl rfl ?_
  refine xm_E_cs [.int l0] [.int r1] r_X5_possible_31 rfl rfl rfl (Nat.le_of_ble_eq_true rfl) rfl q4 ?_
  refine xm_E_s r_X5_possible_32 rfl rfl ?_
  refine xm_E_cs [.int r1, .int r2, .int l1] [] r_X5_possible_33 rfl rfl rfl (Nat.le_of_ble_eq_true rfl) rfl q5 ?_
  refine xm_E_s r_X5_possible_34 rfl rfl ?_
  refine xm_E_f q6 ?_
  refine xm_E_s r_X5_possible_37 rfl rfl ?_
  refine xm_E_s r_X5_possible_38 rfl (xm_T_lk 53 rfl (by show (if (10 : Int) = l1.toInt then (39 : Nat) else (if (11 : Int) = l1.toInt then (46 : Nat) else 53)) = _; rw [if_neg q7, if_neg q8])) ?_
  refine xm_E_s r_X5_possible_53 rfl rfl ?_
  refine xm_E_s r_X5_possible_54 rfl rfl ?_
  refine xm_E_t q9 ?_
  refine xm_E_s r_X5_possible_55 rfl rfl ?_
  refine xm_E_s r_X5_possible_56 rfl rfl ?_
  exact xm_E_iret r_X5_possible_58 rfl rfl
theorem p_X5_possible_0_29 {X : xm_X} {P : List xm_M} {d : Nat} {h : xm_H} {l0 : Int32} {l1 : Int32} {l2 : Int32} {h0 : xm_H} {r0 : Int32} {h1 : xm_H} {r1 : Int32} {h2 : xm_H} {r2 : Int32} {h3 : xm_H} {r3 : Int32} (q0 : xm_V X P d 42 [.int l0] h (some (.int r0)) h0) (q1 : l1.toInt < 8 ∨ 12 < l1.toInt) (q2 : xm_V X P d 38 [.int l0] h0 (some (.int r1)) h1) (q3 : ¬ (l2 < r1)) (q4 : xm_V X P d 39 [.int l0] h1 (some (.int r2)) h2) (q5 : xm_V X P d 48 [.int r1, .int r2, .int l1] h2 (some (.int r3)) h3) (q6 : ¬ (r3 = (0 : Int32))) (q7 : ¬ (10 : Int) = l1.toInt) (q8 : ¬ (11 : Int) = l1.toInt) (q9 : ¬ (r0 = (0 : Int32))) : xm_E X P d co_X5_possible 0 [some (.int l0), some (.int l1), some (.int l2), none, none] [] h (some (.int (0 : Int32))) h3 := by
  refine xm_E_s r_X5_possible_0 rfl rfl ?_
  refine xm_E_cs [.int l0] [] r_X5_possible_1 rfl rfl rfl (Nat.le_of_ble_eq_true rfl) rfl q0 ?_
  refine xm_E_s (ls1 := [some (.int l0), some (.int l1), some (.int l2), some (.int r0), none]) r_X5_possible_2 rfl rfl ?_
  refine xm_E_s r_X5_possible_3 rfl rfl ?_
  refine xm_E_s r_X5_possible_4 rfl (xm_T_tabd rfl q1) ?_
  refine xm_E_s r_X5_possible_23 rfl rfl ?_
  refine xm_E_cs [.int l0] [] r_X5_possible_24 rfl rfl rfl (Nat.le_of_ble_eq_true rfl) rfl q2 ?_
  refine xm_E_s (ls1 := [some (.int l0), some (.int l1), some (.int l2), some (.int r0), some (.int r1)]) r_X5_possible_25 rfl rfl ?_
  refine xm_E_s r_X5_possible_26 rfl rfl ?_
  refine xm_E_s r_X5_possible_27 rfl rfl ?_
  refine xm_E_s r_X5_possible_28 rfl rfl ?_
  refine xm_E_f q3 ?_
  refine xm_E_s r_X5_possible_29 rfl rfl ?_
  refine xm_E_s r_X5_possible_30 rfl rfl ?_
  refine xm_E_cs [.int l0] [.int r1] r_X5_possible_31 rfl rfl rfl (Nat.le_of_ble_eq_true rfl) rfl q4 ?_
  refine xm_E_s r_X5_possible_32 rfl rfl ?_
  refine xm_E_cs [.int r1, .int r2, .int l1] [] r_X5_possible_33 rfl rfl rfl (Nat.le_of_ble_eq_true rfl) rfl q5 ?_
  refine xm_E_s r_X5_possible_34 rfl rfl ?_
  refine xm_E_f q6 ?_
  refine xm_E_s r_X5_possible_37 rfl rfl ?_
  refine xm_E_s r_X5_possible_38 rfl (xm_T_lk 53 rfl (by show (if (10 : Int) = l1.toInt then (39 : Nat) else (if (11 : Int) = l1.toInt then (46 : Nat) else 53)) = _; rw [if_neg q7, if_neg q8])) ?_
  refine xm_E_s r_X5_possible_53 rfl rfl ?_
  refine xm_E_s r_X5_possible_54 rfl rfl ?_
  refine xm_E_f q9 ?_
  refine xm_E_s r_X5_possible_57 rfl rfl ?_
  exact xm_E_iret r_X5_possible_58 rfl rfl
theorem r_X5_divides_0 : co_X5_divides[0]? = some ((0, .iload_n 2, 0, 0, 0, 0, 0, 0, []) : xm_I) := rfl
theorem r_X5_divides_1 : co_X5_divides[1]? = some ((1, .tableswitch 99 0 11 #[63, 63, 75, 87, 87, 87, 99, 99, 99, 99, 63, 63], 0, 0, 26, 0, 0, 0, [2, 2, 10, 18, 18, 18, 26, 26, 26, 26, 2, 2]) : xm_I) := rfl
theorem r_X5_divides_2 : co_X5_divides[2]? = some ((64, .iload_n 1, 0, 0, 0, 0, 0, 0, []) : xm_I) := rfl
theorem r_X5_divides_3 : co_X5_divides[3]? = some ((65, .iconst 2, 0, 0, 0, 0, 2, 0, []) : xm_I) := rfl
theorem r_X5_divides_4 : co_X5_divides[4]? = some ((66, .irem, 0, 0, 0, 0, 0, 0, []) : xm_I) := rfl
theorem r_X5_divides_5 : co_X5_divides[5]? = some ((67, .ifCond .ne 7, 0, 0, 8, 0, 0, 0, []) : xm_I) := rfl
theorem r_X5_divides_6 : co_X5_divides[6]? = some ((70, .iconst 1, 0, 0, 0, 0, 1, 0, []) : xm_I) := rfl
theorem r_X5_divides_7 : co_X5_divides[7]? = some ((71, .goto 4, 0, 0, 9, 0, 0, 0, []) : xm_I) := rfl
theorem r_X5_divides_8 : co_X5_divides[8]? = some ((74, .iconst 0, 0, 0, 0, 0, 0, 0, []) : xm_I) := rfl
theorem r_X5_divides_9 : co_X5_divides[9]? = some ((75, .ireturn, 0, 0, 0, 3, 0, 0, []) : xm_I) := rfl
theorem r_X5_divides_10 : co_X5_divides[10]? = some ((76, .iload_n 1, 0, 0, 0, 0, 0, 0, []) : xm_I) := rfl
theorem r_X5_divides_11 : co_X5_divides[11]? = some ((77, .iconst 3, 0, 0, 0, 0, 3, 0, []) : xm_I) := rfl
theorem r_X5_divides_12 : co_X5_divides[12]? = some ((78, .irem, 0, 0, 0, 0, 0, 0, []) : xm_I) := rfl
theorem r_X5_divides_13 : co_X5_divides[13]? = some ((79, .ifCond .ne 7, 0, 0, 16, 0, 0, 0, []) : xm_I) := rfl
theorem r_X5_divides_14 : co_X5_divides[14]? = some ((82, .iconst 1, 0, 0, 0, 0, 1, 0, []) : xm_I) := rfl
theorem r_X5_divides_15 : co_X5_divides[15]? = some ((83, .goto 4, 0, 0, 17, 0, 0, 0, []) : xm_I) := rfl
theorem r_X5_divides_16 : co_X5_divides[16]? = some ((86, .iconst 0, 0, 0, 0, 0, 0, 0, []) : xm_I) := rfl
theorem r_X5_divides_17 : co_X5_divides[17]? = some ((87, .ireturn, 0, 0, 0, 3, 0, 0, []) : xm_I) := rfl
theorem r_X5_divides_18 : co_X5_divides[18]? = some ((88, .iload_n 0, 0, 0, 0, 0, 0, 0, []) : xm_I) := rfl
theorem r_X5_divides_19 : co_X5_divides[19]? = some ((89, .iconst 2, 0, 0, 0, 0, 2, 0, []) : xm_I) := rfl
theorem r_X5_divides_20 : co_X5_divides[20]? = some ((90, .irem, 0, 0, 0, 0, 0, 0, []) : xm_I) := rfl
theorem r_X5_divides_21 : co_X5_divides[21]? = some ((91, .ifCond .ne 7, 0, 0, 24, 0, 0, 0, []) : xm_I) := rfl
theorem r_X5_divides_22 : co_X5_divides[22]? = some ((94, .iconst 1, 0, 0, 0, 0, 1, 0, []) : xm_I) := rfl
theorem r_X5_divides_23 : co_X5_divides[23]? = some ((95, .goto 4, 0, 0, 25, 0, 0, 0, []) : xm_I) := rfl
theorem r_X5_divides_24 : co_X5_divides[24]? = some ((98, .iconst 0, 0, 0, 0, 0, 0, 0, []) : xm_I) := rfl
theorem r_X5_divides_25 : co_X5_divides[25]? = some ((99, .ireturn, 0, 0, 0, 3, 0, 0, []) : xm_I) := rfl
theorem r_X5_divides_26 : co_X5_divides[26]? = some ((100, .iconst 1, 0, 0, 0, 0, 1, 0, []) : xm_I) := rfl
theorem r_X5_divides_27 : co_X5_divides[27]? = some ((101, .ireturn, 0, 0, 0, 3, 0, 0, []) : xm_I) := rfl
theorem p_X5_divides_0_0 {X : xm_X} {P : List xm_M} {d : Nat} {h : xm_H} {l0 : Int32} {l1 : Int32} {l2 : Int32} (q0 : l2 = (0 : Int32)) (q1 : l1 - l1 / (2 : Int32) * (2 : Int32) = (0 : Int32)) : xm_E X P d co_X5_divides 0 [some (.int l0), some (.int l1), some (.int l2)] [] h (some (.int (1 : Int32))) h := by
  refine xm_E_s r_X5_divides_0 rfl rfl ?_
  refine xm_E_s r_X5_divides_1 rfl (xm_T_tab (0 : Int32) 2 rfl q0 (by decide) rfl) ?_
  refine xm_E_s r_X5_divides_2 rfl rfl ?_
  refine xm_E_s r_X5_divides_3 rfl rfl ?_
  refine xm_E_s r_X5_divides_4 rfl (xm_T_irem rfl (by decide)) ?_
  refine xm_E_s r_X5_divides_5 rfl rfl ?_
  refine xm_E_t q1 ?_
  refine xm_E_s r_X5_divides_6 rfl rfl ?_
  refine xm_E_s r_X5_divides_7 rfl rfl ?_
  exact xm_E_iret r_X5_divides_9 rfl rfl
theorem p_X5_divides_0_1 {X : xm_X} {P : List xm_M} {d : Nat} {h : xm_H} {l0 : Int32} {l1 : Int32} {l2 : Int32} (q0 : l2 = (0 : Int32)) (q1 : ¬ (l1 - l1 / (2 : Int32) * (2 : Int32) = (0 : Int32))) : xm_E X P d co_X5_divides 0 [some (.int l0), some (.int l1), some (.int l2)] [] h (some (.int (0 : Int32))) h := by
  refine xm_E_s r_X5_divides_0 rfl rfl ?_
  refine xm_E_s r_X5_divides_1 rfl (xm_T_tab (0 : Int32) 2 rfl q0 (by decide) rfl) ?_
  refine xm_E_s r_X5_divides_2 rfl rfl ?_
  refine xm_E_s r_X5_divides_3 rfl rfl ?_
  refine xm_E_s r_X5_divides_4 rfl (xm_T_irem rfl (by decide)) ?_
  refine xm_E_s r_X5_divides_5 rfl rfl ?_
  refine xm_E_f q1 ?_
  refine xm_E_s r_X5_divides_8 rfl rfl ?_
  exact xm_E_iret r_X5_divides_9 rfl rfl
theorem p_X5_divides_0_2 {X : xm_X} {P : List xm_M} {d : Nat} {h : xm_H} {l0 : Int32} {l1 : Int32} {l2 : Int32} (q0 : l2 = (1 : Int32)) (q1 : l1 - l1 / (2 : Int32) * (2 : Int32) = (0 : Int32)) : xm_E X P d co_X5_divides 0 [some (.int l0), some (.int l1), some (.int l2)] [] h (some (.int (1 : Int32))) h := by
  refine xm_E_s r_X5_divides_0 rfl rfl ?_
  refine xm_E_s r_X5_divides_1 rfl (xm_T_tab (1 : Int32) 2 rfl q0 (by decide) rfl) ?_
  refine xm_E_s r_X5_divides_2 rfl rfl ?_
  refine xm_E_s r_X5_divides_3 rfl rfl ?_
  refine xm_E_s r_X5_divides_4 rfl (xm_T_irem rfl (by decide)) ?_
  refine xm_E_s r_X5_divides_5 rfl rfl ?_
  refine xm_E_t q1 ?_
  refine xm_E_s r_X5_divides_6 rfl rfl ?_
  refine xm_E_s r_X5_divides_7 rfl rfl ?_
  exact xm_E_iret r_X5_divides_9 rfl rfl
theorem p_X5_divides_0_3 {X : xm_X} {P : List xm_M} {d : Nat} {h : xm_H} {l0 : Int32} {l1 : Int32} {l2 : Int32} (q0 : l2 = (1 : Int32)) (q1 : ¬ (l1 - l1 / (2 : Int32) * (2 : Int32) = (0 : Int32))) : xm_E X P d co_X5_divides 0 [some (.int l0), some (.int l1), some (.int l2)] [] h (some (.int (0 : Int32))) h := by
  refine xm_E_s r_X5_divides_0 rfl rfl ?_
  refine xm_E_s r_X5_divides_1 rfl (xm_T_tab (1 : Int32) 2 rfl q0 (by decide) rfl) ?_
  refine xm_E_s r_X5_divides_2 rfl rfl ?_
  refine xm_E_s r_X5_divides_3 rfl rfl ?_
  refine xm_E_s r_X5_divides_4 rfl (xm_T_irem rfl (by decide)) ?_
  refine xm_E_s r_X5_divides_5 rfl rfl ?_
  refine xm_E_f q1 ?_
  refine xm_E_s r_X5_divides_8 rfl rfl ?_
  exact xm_E_iret r_X5_divides_9 rfl rfl
theorem p_X5_divides_0_4 {X : xm_X} {P : List xm_M} {d : Nat} {h : xm_H} {l0 : Int32} {l1 : Int32} {l2 : Int32} (q0 : l2 = (2 : Int32)) (q1 : l1 - l1 / (3 : Int32) * (3 : Int32) = (0 : Int32)) : xm_E X P d co_X5_divides 0 [some (.int l0), some (.int l1), some (.int l2)] [] h (some (.int (1 : Int32))) h := by
  refine xm_E_s r_X5_divides_0 rfl rfl ?_
  refine xm_E_s r_X5_divides_1 rfl (xm_T_tab (2 : Int32) 10 rfl q0 (by decide) rfl) ?_
  refine xm_E_s r_X5_divides_10 rfl rfl ?_
  refine xm_E_s r_X5_divides_11 rfl rfl ?_
  refine xm_E_s r_X5_divides_12 rfl (xm_T_irem rfl (by decide)) ?_
  refine xm_E_s r_X5_divides_13 rfl rfl ?_
  refine xm_E_t q1 ?_
  refine xm_E_s r_X5_divides_14 rfl rfl ?_
  refine xm_E_s r_X5_divides_15 rfl rfl ?_
  exact xm_E_iret r_X5_divides_17 rfl rfl
theorem p_X5_divides_0_5 {X : xm_X} {P : List xm_M} {d : Nat} {h : xm_H} {l0 : Int32} {l1 : Int32} {l2 : Int32} (q0 : l2 = (2 : Int32)) (q1 : ¬ (l1 - l1 / (3 : Int32) * (3 : Int32) = (0 : Int32))) : xm_E X P d co_X5_divides 0 [some (.int l0), some (.int l1), some (.int l2)] [] h (some (.int (0 : Int32))) h := by
  refine xm_E_s r_X5_divides_0 rfl rfl ?_
  refine xm_E_s r_X5_divides_1 rfl (xm_T_tab (2 : Int32) 10 rfl q0 (by decide) rfl) ?_
  refine xm_E_s r_X5_divides_10 rfl rfl ?_
  refine xm_E_s r_X5_divides_11 rfl rfl ?_
  refine xm_E_s r_X5_divides_12 rfl (xm_T_irem rfl (by decide)) ?_
  refine xm_E_s r_X5_divides_13 rfl rfl ?_
  refine xm_E_f q1 ?_
  refine xm_E_s r_X5_divides_16 rfl rfl ?_
  exact xm_E_iret r_X5_divides_17 rfl rfl
theorem p_X5_divides_0_6 {X : xm_X} {P : List xm_M} {d : Nat} {h : xm_H} {l0 : Int32} {l1 : Int32} {l2 : Int32} (q0 : l2 = (3 : Int32)) (q1 : l0 - l0 / (2 : Int32) * (2 : Int32) = (0 : Int32)) : xm_E X P d co_X5_divides 0 [some (.int l0), some (.int l1), some (.int l2)] [] h (some (.int (1 : Int32))) h := by
  refine xm_E_s r_X5_divides_0 rfl rfl ?_
  refine xm_E_s r_X5_divides_1 rfl (xm_T_tab (3 : Int32) 18 rfl q0 (by decide) rfl) ?_
  refine xm_E_s r_X5_divides_18 rfl rfl ?_
  refine xm_E_s r_X5_divides_19 rfl rfl ?_
  refine xm_E_s r_X5_divides_20 rfl (xm_T_irem rfl (by decide)) ?_
  refine xm_E_s r_X5_divides_21 rfl rfl ?_
  refine xm_E_t q1 ?_
  refine xm_E_s r_X5_divides_22 rfl rfl ?_
  refine xm_E_s r_X5_divides_23 rfl rfl ?_
  exact xm_E_iret r_X5_divides_25 rfl rfl
theorem p_X5_divides_0_7 {X : xm_X} {P : List xm_M} {d : Nat} {h : xm_H} {l0 : Int32} {l1 : Int32} {l2 : Int32} (q0 : l2 = (3 : Int32)) (q1 : ¬ (l0 - l0 / (2 : Int32) * (2 : Int32) = (0 : Int32))) : xm_E X P d co_X5_divides 0 [some (.int l0), some (.int l1), some (.int l2)] [] h (some (.int (0 : Int32))) h := by
  refine xm_E_s r_X5_divides_0 rfl rfl ?_
  refine xm_E_s r_X5_divides_1 rfl (xm_T_tab (3 : Int32) 18 rfl q0 (by decide) rfl) ?_
  refine xm_E_s r_X5_divides_18 rfl rfl ?_
  refine xm_E_s r_X5_divides_19 rfl rfl ?_
  refine xm_E_s r_X5_divides_20 rfl (xm_T_irem rfl (by decide)) ?_
  refine xm_E_s r_X5_divides_21 rfl rfl ?_
  refine xm_E_f q1 ?_
  refine xm_E_s r_X5_divides_24 rfl rfl ?_
  exact xm_E_iret r_X5_divides_25 rfl rfl
theorem p_X5_divides_0_8 {X : xm_X} {P : List xm_M} {d : Nat} {h : xm_H} {l0 : Int32} {l1 : Int32} {l2 : Int32} (q0 : l2 = (4 : Int32)) (q1 : l0 - l0 / (2 : Int32) * (2 : Int32) = (0 : Int32)) : xm_E X P d co_X5_divides 0 [some (.int l0), some (.int l1), some (.int l2)] [] h (some (.int (1 : Int32))) h := by
  refine xm_E_s r_X5_divides_0 rfl rfl ?_
  refine xm_E_s r_X5_divides_1 rfl (xm_T_tab (4 : Int32) 18 rfl q0 (by decide) rfl) ?_
  refine xm_E_s r_X5_divides_18 rfl rfl ?_
  refine xm_E_s r_X5_divides_19 rfl rfl ?_
  refine xm_E_s r_X5_divides_20 rfl (xm_T_irem rfl (by decide)) ?_
  refine xm_E_s r_X5_divides_21 rfl rfl ?_
  refine xm_E_t q1 ?_
  refine xm_E_s r_X5_divides_22 rfl rfl ?_
  refine xm_E_s r_X5_divides_23 rfl rfl ?_
  exact xm_E_iret r_X5_divides_25 rfl rfl
theorem p_X5_divides_0_9 {X : xm_X} {P : List xm_M} {d : Nat} {h : xm_H} {l0 : Int32} {l1 : Int32} {l2 : Int32} (q0 : l2 = (4 : Int32)) (q1 : ¬ (l0 - l0 / (2 : Int32) * (2 : Int32) = (0 : Int32))) : xm_E X P d co_X5_divides 0 [some (.int l0), some (.int l1), some (.int l2)] [] h (some (.int (0 : Int32))) h := by
  refine xm_E_s r_X5_divides_0 rfl rfl ?_
  refine xm_E_s r_X5_divides_1 rfl (xm_T_tab (4 : Int32) 18 rfl q0 (by decide) rfl) ?_
  refine xm_E_s r_X5_divides_18 rfl rfl ?_
  refine xm_E_s r_X5_divides_19 rfl rfl ?_
  refine xm_E_s r_X5_divides_20 rfl (xm_T_irem rfl (by decide)) ?_
  refine xm_E_s r_X5_divides_21 rfl rfl ?_
  refine xm_E_f q1 ?_
  refine xm_E_s r_X5_divides_24 rfl rfl ?_
  exact xm_E_iret r_X5_divides_25 rfl rfl
theorem p_X5_divides_0_10 {X : xm_X} {P : List xm_M} {d : Nat} {h : xm_H} {l0 : Int32} {l1 : Int32} {l2 : Int32} (q0 : l2 = (5 : Int32)) (q1 : l0 - l0 / (2 : Int32) * (2 : Int32) = (0 : Int32)) : xm_E X P d co_X5_divides 0 [some (.int l0), some (.int l1), some (.int l2)] [] h (some (.int (1 : Int32))) h := by
  refine xm_E_s r_X5_divides_0 rfl rfl ?_
  refine xm_E_s r_X5_divides_1 rfl (xm_T_tab (5 : Int32) 18 rfl q0 (by decide) rfl) ?_
  refine xm_E_s r_X5_divides_18 rfl rfl ?_
  refine xm_E_s r_X5_divides_19 rfl rfl ?_
  refine xm_E_s r_X5_divides_20 rfl (xm_T_irem rfl (by decide)) ?_
  refine xm_E_s r_X5_divides_21 rfl rfl ?_
  refine xm_E_t q1 ?_
  refine xm_E_s r_X5_divides_22 rfl rfl ?_
  refine xm_E_s r_X5_divides_23 rfl rfl ?_
  exact xm_E_iret r_X5_divides_25 rfl rfl
theorem p_X5_divides_0_11 {X : xm_X} {P : List xm_M} {d : Nat} {h : xm_H} {l0 : Int32} {l1 : Int32} {l2 : Int32} (q0 : l2 = (5 : Int32)) (q1 : ¬ (l0 - l0 / (2 : Int32) * (2 : Int32) = (0 : Int32))) : xm_E X P d co_X5_divides 0 [some (.int l0), some (.int l1), some (.int l2)] [] h (some (.int (0 : Int32))) h := by
  refine xm_E_s r_X5_divides_0 rfl rfl ?_
  refine xm_E_s r_X5_divides_1 rfl (xm_T_tab (5 : Int32) 18 rfl q0 (by decide) rfl) ?_
  refine xm_E_s r_X5_divides_18 rfl rfl ?_
  refine xm_E_s r_X5_divides_19 rfl rfl ?_
  refine xm_E_s r_X5_divides_20 rfl (xm_T_irem rfl (by decide)) ?_
  refine xm_E_s r_X5_divides_21 rfl rfl ?_
  refine xm_E_f q1 ?_
  refine xm_E_s r_X5_divides_24 rfl rfl ?_
  exact xm_E_iret r_X5_divides_25 rfl rfl
theorem p_X5_divides_0_12 {X : xm_X} {P : List xm_M} {d : Nat} {h : xm_H} {l0 : Int32} {l1 : Int32} {l2 : Int32} (q0 : l2 = (6 : Int32)) : xm_E X P d co_X5_divides 0 [some (.int l0), some (.int l1), some (.int l2)] [] h (some (.int (1 : Int32))) h := by
  refine xm_E_s r_X5_divides_0 rfl rfl ?_
  refine xm_E_s r_X5_divides_1 rfl (xm_T_tab (6 : Int32) 26 rfl q0 (by decide) rfl) ?_
  refine xm_E_s r_X5_divides_26 rfl rfl ?_
  exact xm_E_iret r_X5_divides_27 rfl rfl
theorem p_X5_divides_0_13 {X : xm_X} {P : List xm_M} {d : Nat} {h : xm_H} {l0 : Int32} {l1 : Int32} {l2 : Int32} (q0 : l2 = (7 : Int32)) : xm_E X P d co_X5_divides 0 [some (.int l0), some (.int l1), some (.int l2)] [] h (some (.int (1 : Int32))) h := by
  refine xm_E_s r_X5_divides_0 rfl rfl ?_
  refine xm_E_s r_X5_divides_1 rfl (xm_T_tab (7 : Int32) 26 rfl q0 (by decide) rfl) ?_
  refine xm_E_s r_X5_divides_26 rfl rfl ?_
  exact xm_E_iret r_X5_divides_27 rfl rfl
theorem p_X5_divides_0_14 {X : xm_X} {P : List xm_M} {d : Nat} {h : xm_H} {l0 : Int32} {l1 : Int32} {l2 : Int32} (q0 : l2 = (8 : Int32)) : xm_E X P d co_X5_divides 0 [some (.int l0), some (.int l1), some (.int l2)] [] h (some (.int (1 : Int32))) h := by
  refine xm_E_s r_X5_divides_0 rfl rfl ?_
  refine xm_E_s r_X5_divides_1 rfl (xm_T_tab (8 : Int32) 26 rfl q0 (by decide) rfl) ?_
  refine xm_E_s r_X5_divides_26 rfl rfl ?_
  exact xm_E_iret r_X5_divides_27 rfl rfl
theorem p_X5_divides_0_15 {X : xm_X} {P : List xm_M} {d : Nat} {h : xm_H} {l0 : Int32} {l1 : Int32} {l2 : Int32} (q0 : l2 = (9 : Int32)) : xm_E X P d co_X5_divides 0 [some (.int l0), some (.int l1), some (.int l2)] [] h (some (.int (1 : Int32))) h := by
  refine xm_E_s r_X5_divides_0 rfl rfl ?_
  refine xm_E_s r_X5_divides_1 rfl (xm_T_tab (9 : Int32) 26 rfl q0 (by decide) rfl) ?_
  refine xm_E_s r_X5_divides_26 rfl rfl ?_
  exact xm_E_iret r_X5_divides_27 rfl rfl
theorem p_X5_divides_0_16 {X : xm_X} {P : List xm_M} {d : Nat} {h : xm_H} {l0 : Int32} {l1 : Int32} {l2 : Int32} (q0 : l2 = (10 : Int32)) (q1 : l1 - l1 / (2 : Int32) * (2 : Int32) = (0 : Int32)) : xm_E X P d co_X5_divides 0 [some (.int l0), some (.int l1), some (.int l2)] [] h (some (.int (1 : Int32))) h := by
  refine xm_E_s r_X5_divides_0 rfl rfl ?_
  refine xm_E_s r_X5_divides_1 rfl (xm_T_tab (10 : Int32) 2 rfl q0 (by decide) rfl) ?_
  refine xm_E_s r_X5_divides_2 rfl rfl ?_
  refine xm_E_s r_X5_divides_3 rfl rfl ?_
  refine xm_E_s r_X5_divides_4 rfl (xm_T_irem rfl (by decide)) ?_
  refine xm_E_s r_X5_divides_5 rfl rfl ?_
  refine xm_E_t q1 ?_
  refine xm_E_s r_X5_divides_6 rfl rfl ?_
  refine xm_E_s r_X5_divides_7 rfl rfl ?_
  exact xm_E_iret r_X5_divides_9 rfl rfl
theorem p_X5_divides_0_17 {X : xm_X} {P : List xm_M} {d : Nat} {h : xm_H} {l0 : Int32} {l1 : Int32} {l2 : Int32} (q0 : l2 = (10 : Int32)) (q1 : ¬ (l1 - l1 / (2 : Int32) * (2 : Int32) = (0 : Int32))) : xm_E X P d co_X5_divides 0 [some (.int l0), some (.int l1), some (.int l2)] [] h (some (.int (0 : Int32))) h := by
  refine xm_E_s r_X5_divides_0 rfl rfl ?_
  refine xm_E_s r_X5_divides_1 rfl (xm_T_tab (10 : Int32) 2 rfl q0 (by decide) rfl) ?_
  refine xm_E_s r_X5_divides_2 rfl rfl ?_
  refine xm_E_s r_X5_divides_3 rfl rfl ?_
  refine xm_E_s r_X5_divides_4 rfl (xm_T_irem rfl (by decide)) ?_
  refine xm_E_s r_X5_divides_5 rfl rfl ?_
  refine xm_E_f q1 ?_
  refine xm_E_s r_X5_divides_8 rfl rfl ?_
  exact xm_E_iret r_X5_divides_9 rfl rfl
theorem p_X5_divides_0_18 {X : xm_X} {P : List xm_M} {d : Nat} {h : xm_H} {l0 : Int32} {l1 : Int32} {l2 : Int32} (q0 : l2 = (11 : Int32)) (q1 : l1 - l1 / (2 : Int32) * (2 : Int32) = (0 : Int32)) : xm_E X P d co_X5_divides 0 [some (.int l0), some (.int l1), some (.int l2)] [] h (some (.int (1 : Int32))) h := by
  refine xm_E_s r_X5_divides_0 rfl rfl ?_
  refine xm_E_s r_X5_divides_1 rfl (xm_T_tab (11 : Int32) 2 rfl q0 (by decide) rfl) ?_
  refine xm_E_s r_X5_divides_2 rfl rfl ?_
  refine xm_E_s r_X5_divides_3 rfl rfl ?_
  refine xm_E_s r_X5_divides_4 rfl (xm_T_irem rfl (by decide)) ?_
  refine xm_E_s r_X5_divides_5 rfl rfl ?_
  refine xm_E_t q1 ?_
  refine xm_E_s r_X5_divides_6 rfl rfl ?_
  refine xm_E_s r_X5_divides_7 rfl rfl ?_
  exact xm_E_iret r_X5_divides_9 rfl rfl
theorem p_X5_divides_0_19 {X : xm_X} {P : List xm_M} {d : Nat} {h : xm_H} {l0 : Int32} {l1 : Int32} {l2 : Int32} (q0 : l2 = (11 : Int32)) (q1 : ¬ (l1 - l1 / (2 : Int32) * (2 : Int32) = (0 : Int32))) : xm_E X P d co_X5_divides 0 [some (.int l0), some (.int l1), some (.int l2)] [] h (some (.int (0 : Int32))) h := by
  refine xm_E_s r_X5_divides_0 rfl rfl ?_
  refine xm_E_s r_X5_divides_1 rfl (xm_T_tab (11 : Int32) 2 rfl q0 (by decide) rfl) ?_
  refine xm_E_s r_X5_divides_2 rfl rfl ?_
  refine xm_E_s r_X5_divides_3 rfl rfl ?_
  refine xm_E_s r_X5_divides_4 rfl (xm_T_irem rfl (by decide)) ?_
  refine xm_E_s r_X5_divides_5 rfl rfl ?_
  refine xm_E_f q1 ?_
  refine xm_E_s r_X5_divides_8 rfl rfl ?_
  exact xm_E_iret r_X5_divides_9 rfl rfl
theorem p_X5_divides_0_20 {X : xm_X} {P : List xm_M} {d : Nat} {h : xm_H} {l0 : Int32} {l1 : Int32} {l2 : Int32} (q0 : l2.toInt < 0 ∨ 11 < l2.toInt) : xm_E X P d co_X5_divides 0 [some (.int l0), some (.int l1), some (.int l2)] [] h (some (.int (1 : Int32))) h := by
  refine xm_E_s r_X5_divides_0 rfl rfl ?_
  refine xm_E_s r_X5_divides_1 rfl (xm_T_tabd rfl q0) ?_
  refine xm_E_s r_X5_divides_26 rfl rfl ?_
  exact xm_E_iret r_X5_divides_27 rfl rfl
theorem r_X9_doAct_0 : co_X9_doAct[0]? = some ((0, .aload_n 0, 0, 0, 0, 0, 0, 0, []) : xm_I) := rfl
theorem r_X9_doAct_1 : co_X9_doAct[1]? = some ((1, .getfield 26, 307, 8, 2, 0, 0, 0, []) : xm_I) := rfl
theorem r_X9_doAct_2 : co_X9_doAct[2]? = some ((4, .bipush 60, 0, 0, 0, 0, 60, 0, []) : xm_I) := rfl
theorem r_X9_doAct_3 : co_X9_doAct[3]? = some ((6, .if_icmp .ge 21, 0, 0, 12, 0, 0, 0, []) : xm_I) := rfl
theorem r_X9_doAct_4 : co_X9_doAct[4]? = some ((9, .aload_n 0, 0, 0, 0, 0, 0, 0, []) : xm_I) := rfl
theorem r_X9_doAct_5 : co_X9_doAct[5]? = some ((10, .getfield 33, 310, 8, 3, 0, 0, 0, []) : xm_I) := rfl
theorem r_X9_doAct_6 : co_X9_doAct[6]? = some ((13, .iload_n 1, 0, 0, 0, 0, 0, 0, []) : xm_I) := rfl
theorem r_X9_doAct_7 : co_X9_doAct[7]? = some ((14, .aload_n 0, 0, 0, 0, 0, 0, 0, []) : xm_I) := rfl
theorem r_X9_doAct_8 : co_X9_doAct[8]? = some ((15, .getfield 12, 303, 8, 0, 2, 0, 0, []) : xm_I) := rfl
theorem r_X9_doAct_9 : co_X9_doAct[9]? = some ((18, .getfield 39, 218, 0, 4, 0, 0, 0, []) : xm_I) := rfl
theorem r_X9_doAct_10 : co_X9_doAct[10]? = some ((21, .invokestatic 42, 758, 47, 3, 0, 0, 0, []) : xm_I) := rfl
theorem r_X9_doAct_11 : co_X9_doAct[11]? = some ((24, .ifCond .ne 5, 0, 0, 14, 0, 0, 0, []) : xm_I) := rfl
theorem r_X9_doAct_12 : co_X9_doAct[12]? = some ((27, .iconst 0, 0, 0, 0, 0, 0, 0, []) : xm_I) := rfl
theorem r_X9_doAct_13 : co_X9_doAct[13]? = some ((28, .ireturn, 0, 0, 0, 3, 0, 0, []) : xm_I) := rfl
theorem r_X9_doAct_14 : co_X9_doAct[14]? = some ((29, .aload_n 0, 0, 0, 0, 0, 0, 0, []) : xm_I) := rfl
theorem r_X9_doAct_15 : co_X9_doAct[15]? = some ((30, .getfield 18, 306, 8, 1, 2, 0, 0, []) : xm_I) := rfl
theorem r_X9_doAct_16 : co_X9_doAct[16]? = some ((33, .aload_n 0, 0, 0, 0, 0, 0, 0, []) : xm_I) := rfl
theorem r_X9_doAct_17 : co_X9_doAct[17]? = some ((34, .getfield 26, 307, 8, 2, 0, 0, 0, []) : xm_I) := rfl
theorem r_X9_doAct_18 : co_X9_doAct[18]? = some ((37, .iload_n 1, 0, 0, 0, 0, 0, 0, []) : xm_I) := rfl
theorem r_X9_doAct_19 : co_X9_doAct[19]? = some ((38, .iastore, 0, 0, 0, 0, 0, 0, []) : xm_I) := rfl
theorem r_X9_doAct_20 : co_X9_doAct[20]? = some ((39, .aload_n 0, 0, 0, 0, 0, 0, 0, []) : xm_I) := rfl
theorem r_X9_doAct_21 : co_X9_doAct[21]? = some ((40, .dup, 0, 0, 0, 0, 0, 0, []) : xm_I) := rfl
theorem r_X9_doAct_22 : co_X9_doAct[22]? = some ((41, .getfield 26, 307, 8, 2, 0, 0, 0, []) : xm_I) := rfl
theorem r_X9_doAct_23 : co_X9_doAct[23]? = some ((44, .iconst 1, 0, 0, 0, 0, 1, 0, []) : xm_I) := rfl
theorem r_X9_doAct_24 : co_X9_doAct[24]? = some ((45, .iadd, 0, 0, 0, 0, 0, 0, []) : xm_I) := rfl
theorem r_X9_doAct_25 : co_X9_doAct[25]? = some ((46, .putfield 26, 307, 8, 2, 0, 0, 0, []) : xm_I) := rfl
theorem r_X9_doAct_26 : co_X9_doAct[26]? = some ((49, .aload_n 0, 0, 0, 0, 0, 0, 0, []) : xm_I) := rfl
theorem r_X9_doAct_27 : co_X9_doAct[27]? = some ((50, .aload_n 0, 0, 0, 0, 0, 0, 0, []) : xm_I) := rfl
theorem r_X9_doAct_28 : co_X9_doAct[28]? = some ((51, .getfield 33, 310, 8, 3, 0, 0, 0, []) : xm_I) := rfl
theorem r_X9_doAct_29 : co_X9_doAct[29]? = some ((54, .iload_n 1, 0, 0, 0, 0, 0, 0, []) : xm_I) := rfl
theorem r_X9_doAct_30 : co_X9_doAct[30]? = some ((55, .invokestatic 48, 759, 52, 2, 0, 0, 0, []) : xm_I) := rfl
theorem r_X9_doAct_31 : co_X9_doAct[31]? = some ((58, .putfield 33, 310, 8, 3, 0, 0, 0, []) : xm_I) := rfl
theorem r_X9_doAct_32 : co_X9_doAct[32]? = some ((61, .aload_n 0, 0, 0, 0, 0, 0, 0, []) : xm_I) := rfl
theorem r_X9_doAct_33 : co_X9_doAct[33]? = some ((62, .dup, 0, 0, 0, 0, 0, 0, []) : xm_I) := rfl
theorem r_X9_doAct_34 : co_X9_doAct[34]? = some ((63, .getfield 36, 313, 8, 4, 0, 0, 0, []) : xm_I) := rfl
theorem r_X9_doAct_35 : co_X9_doAct[35]? = some ((66, .aload_n 0, 0, 0, 0, 0, 0, 0, []) : xm_I) := rfl
theorem r_X9_doAct_36 : co_X9_doAct[36]? = some ((67, .getfield 12, 303, 8, 0, 2, 0, 0, []) : xm_I) := rfl
theorem r_X9_doAct_37 : co_X9_doAct[37]? = some ((70, .iload_n 1, 0, 0, 0, 0, 0, 0, []) : xm_I) := rfl
theorem r_X9_doAct_38 : co_X9_doAct[38]? = some ((71, .invokevirtual 52, 770, 54, 2, 0, 0, 0, []) : xm_I) := rfl
theorem r_X9_doAct_39 : co_X9_doAct[39]? = some ((74, .iadd, 0, 0, 0, 0, 0, 0, []) : xm_I) := rfl
theorem r_X9_doAct_40 : co_X9_doAct[40]? = some ((75, .putfield 36, 313, 8, 4, 0, 0, 0, []) : xm_I) := rfl
theorem r_X9_doAct_41 : co_X9_doAct[41]? = some ((78, .iconst 1, 0, 0, 0, 0, 1, 0, []) : xm_I) := rfl
theorem r_X9_doAct_42 : co_X9_doAct[42]? = some ((79, .ireturn, 0, 0, 0, 3, 0, 0, []) : xm_I) := rfl
theorem p_X9_doAct_0_0 {X : xm_X} {P : List xm_M} {d : Nat} {h : xm_H} {l0 : Nat} {l1 : Int32} (q0 : X.1[l0]? = some (.inr 8)) (q1 : (60 : Int32) ≤ h.1 l0 2) : xm_E X P d co_X9_doAct 0 [some (.ref l0), some (.int l1)] [] h (some (.int (0 : Int32))) h := by
  refine xm_E_s r_X9_doAct_0 rfl rfl ?_
  refine xm_E_s r_X9_doAct_1 rfl (xm_T_gi rfl q0 rfl (Or.inl rfl)) ?_
  refine xm_E_s r_X9_doAct_2 rfl rfl ?_
  refine xm_E_s r_X9_doAct_3 rfl rfl ?_
  refine xm_E_t q1 ?_
  refine xm_E_s r_X9_doAct_12 rfl rfl ?_
  exact xm_E_iret r_X9_doAct_13 rfl rfl
theorem p_X9_doAct_0_1 {X : xm_X} {P : List xm_M} {d : Nat} {h : xm_H} {l0 : Nat} {l1 : Int32} {v0 : Nat} {h1 : xm_H} {r1 : Int32} (q0 : X.1[l0]? = some (.inr 8)) (q1 : ¬ ((60 : Int32) ≤ h.1 l0 2)) (q2 : h.2.2 l0 0 = some v0) (q3 : X.1[v0]? = some (.inr 0)) (q4 : xm_V X P d 47 [.int (h.1 l0 3), .int l1, .int (h.1 v0 4)] h (some (.int r1)) h1) (q5 : r1 = (0 : Int32)) : xm_E X P d co_X9_doAct 0 [some (.ref l0), some (.int l1)] [] h (some (.int (0 : Int32))) h1 := by
  refine xm_E_s r_X9_doAct_0 rfl rfl ?_
  refine xm_E_s r_X9_doAct_1 rfl (xm_T_gi rfl q0 rfl (Or.inl rfl)) ?_
  refine xm_E_s r_X9_doAct_2 rfl rfl ?_
  refine xm_E_s r_X9_doAct_3 rfl rfl ?_
  refine xm_E_f q1 ?_
  refine xm_E_s r_X9_doAct_4 rfl rfl ?_
  refine xm_E_s r_X9_doAct_5 rfl (xm_T_gi rfl q0 rfl (Or.inl rfl)) ?_
  refine xm_E_s r_X9_doAct_6 rfl rfl ?_
  refine xm_E_s r_X9_doAct_7 rfl rfl ?_
  refine xm_E_s r_X9_doAct_8 rfl (xm_T_gr rfl q0 rfl rfl q2) ?_
  refine xm_E_s r_X9_doAct_9 rfl (xm_T_gi rfl q3 rfl (Or.inl rfl)) ?_
  refine xm_E_cs [.int (h.1 l0 3), .int l1, .int (h.1 v0 4)] [] r_X9_doAct_10 rfl rfl rfl (Nat.le_of_ble_eq_true rfl) rfl q4 ?_
  refine xm_E_s r_X9_doAct_11 rfl rfl ?_
  refine xm_E_t q5 ?_
  refine xm_E_s r_X9_doAct_12 rfl rfl ?_
  exact xm_E_iret r_X9_doAct_13 rfl rfl
theorem p_X9_doAct_0_2 {X : xm_X} {P : List xm_M} {d : Nat} {h : xm_H} {l0 : Nat} {l1 : Int32} {v0 : Nat} {h1 : xm_H} {r1 : Int32} {v2 : Nat} {n3 : Nat} {h4 : xm_H} {r4 : Int32} {v5 : Nat} {h6 : xm_H} {r6 : Int32} (q0 : X.1[l0]? = some (.inr 8)) (q1 : ¬ ((60 : Int32) ≤ h.1 l0 2)) (q2 : h.2.2 l0 0 = some v0) (q3 : X.1[v0]? = some (.inr 0)) (q4 : xm_V X P d 47 [.int (h.1 l0 3), .int l1, .int (h.1 v0 4)] h (some (.int r1)) h1) (q5 : ¬ (r1 = (0 : Int32))) (q6 : h1.2.2 l0 1 = some v2) (q7 : X.1[v2]? = some (.inl (0, n3))) (q8 : ¬ (h1.1 l0 2 < 0 ∨ n3 ≤ (h1.1 l0 2).toNatClampNeg)) (q9 : xm_V X P d 52 [.int ((xm_si (xm_si h1 v2 ((h1.1 l0 2).toNatClampNeg) l1) l0 2 (((xm_si h1 v2 ((h1.1 l0 2).toNatClampNeg) l1).1 l0 2) + (1 : Int32))).1 l0 3), .int l1] (xm_si (xm_si h1 v2 ((h1.1 l0 2).toNatClampNeg) l1) l0 2 (((xm_si h1 v2 ((h1.1 l0 2).toNatClampNeg) l1).1 l0 2) + (1 : Int32))) (some (.int r4)) h4) (q10 : (xm_si h4 l0 3 r4).2.2 l0 0 = some v5) (q11 : xm_V X P d 54 [.ref v5, .int l1] (xm_si h4 l0 3 r4) (some (.int r6)) h6) (q12 : X.1[v5]? = some (.inr 0)) : xm_E X P d co_X9_doAct 0 [some (.ref l0), some (.int l1)] [] h (some (.int (1 : Int32))) (xm_si h6 l0 4 (((xm_si h4 l0 3 r4).1 l0 4) + r6)) := by
  refine xm_E_s r_X9_doAct_0 rfl rfl ?_
  refine xm_E_s r_X9_doAct_1 rfl (xm_T_gi rfl q0 rfl (Or.inl rfl)) ?_
  refine xm_E_s r_X9_doAct_2 rfl rfl ?_
  refine xm_E_s r_X9_doAct_3 rfl rfl ?_
  refine xm_E_f q1 ?_
  refine xm_E_s r_X9_doAct_4 rfl rfl ?_
  refine xm_E_s r_X9_doAct_5 rfl (xm_T_gi rfl q0 rfl (Or.inl rfl)) ?_
  refine xm_E_s r_X9_doAct_6 rfl rfl ?_
  refine xm_E_s r_X9_doAct_7 rfl rfl ?_
  refine xm_E_s r_X9_doAct_8 rfl (xm_T_gr rfl q0 rfl rfl q2) ?_
  refine xm_E_s r_X9_doAct_9 rfl (xm_T_gi rfl q3 rfl (Or.inl rfl)) ?_
  refine xm_E_cs [.int (h.1 l0 3), .int l1, .int (h.1 v0 4)] [] r_X9_doAct_10 rfl rfl rfl (Nat.le_of_ble_eq_true rfl) rfl q4 ?_
  refine xm_E_s r_X9_doAct_11 rfl rfl ?_
  refine xm_E_f q5 ?_
  refine xm_E_s r_X9_doAct_14 rfl rfl ?_
  refine xm_E_s r_X9_doAct_15 rfl (xm_T_gr rfl q0 rfl rfl q6) ?_
  refine xm_E_s r_X9_doAct_16 rfl rfl ?_
  refine xm_E_s r_X9_doAct_17 rfl (xm_T_gi rfl q0 rfl (Or.inl rfl)) ?_
  refine xm_E_s r_X9_doAct_18 rfl rfl ?_
  refine xm_E_s r_X9_doAct_19 rfl (xm_T_asi rfl q7 q8) ?_
  refine xm_E_s r_X9_doAct_20 rfl rfl ?_
  refine xm_E_s r_X9_doAct_21 rfl rfl ?_
  refine xm_E_s r_X9_doAct_22 rfl (xm_T_gi rfl q0 rfl (Or.inl rfl)) ?_
  refine xm_E_s r_X9_doAct_23 rfl rfl ?_
  refine xm_E_s r_X9_doAct_24 rfl rfl ?_
  refine xm_E_s r_X9_doAct_25 rfl (xm_T_pi rfl q0 rfl rfl) ?_
  refine xm_E_s r_X9_doAct_26 rfl rfl ?_
  refine xm_E_s r_X9_doAct_27 rfl rfl ?_
  refine xm_E_s r_X9_doAct_28 rfl (xm_T_gi rfl q0 rfl (Or.inl rfl)) ?_
  refine xm_E_s r_X9_doAct_29 rfl rfl ?_
  refine xm_E_cs [.int ((xm_si (xm_si h1 v2 ((h1.1 l0 2).toNatClampNeg) l1) l0 2 (((xm_si h1 v2 ((h1.1 l0 2).toNatClampNeg) l1).1 l0 2) + (1 : Int32))).1 l0 3), .int l1] [.ref l0] r_X9_doAct_30 rfl rfl rfl (Nat.le_of_ble_eq_true rfl) rfl q9 ?_
  refine xm_E_s r_X9_doAct_31 rfl (xm_T_pi rfl q0 rfl rfl) ?_
  refine xm_E_s r_X9_doAct_32 rfl rfl ?_
  refine xm_E_s r_X9_doAct_33 rfl rfl ?_
  refine xm_E_s r_X9_doAct_34 rfl (xm_T_gi rfl q0 rfl (Or.inl rfl)) ?_
  refine xm_E_s r_X9_doAct_35 rfl rfl ?_
  refine xm_E_s r_X9_doAct_36 rfl (xm_T_gr rfl q0 rfl rfl q10) ?_
  refine xm_E_s r_X9_doAct_37 rfl rfl ?_
  refine xm_E_cv [.ref v5, .int l1] [.int ((xm_si h4 l0 3 r4).1 l0 4), .ref l0] r_X9_doAct_38 rfl rfl (Nat.le_of_ble_eq_true rfl) (xm_rc q12 (by decide)) rfl q11 ?_
  refine xm_E_s r_X9_doAct_39 rfl rfl ?_
  refine xm_E_s r_X9_doAct_40 rfl (xm_T_pi rfl q0 rfl rfl) ?_
  refine xm_E_s r_X9_doAct_41 rfl rfl ?_
  exact xm_E_iret r_X9_doAct_42 rfl rfl
theorem r_X5_folded_0 : co_X5_folded[0]? = some ((0, .iload_n 0, 0, 0, 0, 0, 0, 0, []) : xm_I) := rfl
theorem r_X5_folded_1 : co_X5_folded[1]? = some ((1, .invokestatic 18, 742, 38, 1, 0, 0, 0, []) : xm_I) := rfl
theorem r_X5_folded_2 : co_X5_folded[2]? = some ((4, .istore_n 2, 0, 0, 0, 0, 0, 0, []) : xm_I) := rfl
theorem r_X5_folded_3 : co_X5_folded[3]? = some ((5, .iload_n 0, 0, 0, 0, 0, 0, 0, []) : xm_I) := rfl
theorem r_X5_folded_4 : co_X5_folded[4]? = some ((6, .invokestatic 15, 741, 39, 1, 0, 0, 0, []) : xm_I) := rfl
theorem r_X5_folded_5 : co_X5_folded[5]? = some ((9, .istore_n 3, 0, 0, 0, 0, 0, 0, []) : xm_I) := rfl
theorem r_X5_folded_6 : co_X5_folded[6]? = some ((10, .iload_n 0, 0, 0, 0, 0, 0, 0, []) : xm_I) := rfl
theorem r_X5_folded_7 : co_X5_folded[7]? = some ((11, .invokestatic 11, 740, 42, 1, 0, 0, 0, []) : xm_I) := rfl
theorem r_X5_folded_8 : co_X5_folded[8]? = some ((14, .istore 4, 0, 0, 0, 0, 0, 0, []) : xm_I) := rfl
theorem r_X5_folded_9 : co_X5_folded[9]? = some ((16, .iload_n 1, 0, 0, 0, 0, 0, 0, []) : xm_I) := rfl
theorem r_X5_folded_10 : co_X5_folded[10]? = some ((17, .tableswitch 127 0 11 #[63, 63, 70, 77, 77, 77, 127, 127, 84, 97, 115, 121], 0, 0, 46, 0, 0, 0, [11, 11, 16, 21, 21, 21, 46, 46, 26, 33, 42, 44]) : xm_I) := rfl
theorem r_X5_folded_11 : co_X5_folded[11]? = some ((80, .iload_n 3, 0, 0, 0, 0, 0, 0, []) : xm_I) := rfl
theorem r_X5_folded_12 : co_X5_folded[12]? = some ((81, .iconst 2, 0, 0, 0, 0, 2, 0, []) : xm_I) := rfl
theorem r_X5_folded_13 : co_X5_folded[13]? = some ((82, .idiv, 0, 0, 0, 0, 0, 0, []) : xm_I) := rfl
theorem r_X5_folded_14 : co_X5_folded[14]? = some ((83, .istore_n 3, 0, 0, 0, 0, 0, 0, []) : xm_I) := rfl
theorem r_X5_folded_15 : co_X5_folded[15]? = some ((84, .goto 60, 0, 0, 46, 0, 0, 0, []) : xm_I) := rfl
theorem r_X5_folded_16 : co_X5_folded[16]? = some ((87, .iload_n 3, 0, 0, 0, 0, 0, 0, []) : xm_I) := rfl
theorem r_X5_folded_17 : co_X5_folded[17]? = some ((88, .iconst 3, 0, 0, 0, 0, 3, 0, []) : xm_I) := rfl
theorem r_X5_folded_18 : co_X5_folded[18]? = some ((89, .idiv, 0, 0, 0, 0, 0, 0, []) : xm_I) := rfl
theorem r_X5_folded_19 : co_X5_folded[19]? = some ((90, .istore_n 3, 0, 0, 0, 0, 0, 0, []) : xm_I) := rfl
theorem r_X5_folded_20 : co_X5_folded[20]? = some ((91, .goto 53, 0, 0, 46, 0, 0, 0, []) : xm_I) := rfl
theorem r_X5_folded_21 : co_X5_folded[21]? = some ((94, .iload_n 2, 0, 0, 0, 0, 0, 0, []) : xm_I) := rfl
theorem r_X5_folded_22 : co_X5_folded[22]? = some ((95, .iconst 2, 0, 0, 0, 0, 2, 0, []) : xm_I) := rfl
theorem r_X5_folded_23 : co_X5_folded[23]? = some ((96, .idiv, 0, 0, 0, 0, 0, 0, []) : xm_I) := rfl
theorem r_X5_folded_24 : co_X5_folded[24]? = some ((97, .istore_n 2, 0, 0, 0, 0, 0, 0, []) : xm_I) := rfl
theorem r_X5_folded_25 : co_X5_folded[25]? = some ((98, .goto 46, 0, 0, 46, 0, 0, 0, []) : xm_I) := rfl
theorem r_X5_folded_26 : co_X5_folded[26]? = some ((101, .iload_n 0, 0, 0, 0, 0, 0, 0, []) : xm_I) := rfl
theorem r_X5_folded_27 : co_X5_folded[27]? = some ((102, .invokestatic 15, 741, 39, 1, 0, 0, 0, []) : xm_I) := rfl
theorem r_X5_folded_28 : co_X5_folded[28]? = some ((105, .istore_n 2, 0, 0, 0, 0, 0, 0, []) : xm_I) := rfl
theorem r_X5_folded_29 : co_X5_folded[29]? = some ((106, .iload_n 0, 0, 0, 0, 0, 0, 0, []) : xm_I) := rfl
theorem r_X5_folded_30 : co_X5_folded[30]? = some ((107, .invokestatic 18, 742, 38, 1, 0, 0, 0, []) : xm_I) := rfl
theorem r_X5_folded_31 : co_X5_folded[31]? = some ((110, .istore_n 3, 0, 0, 0, 0, 0, 0, []) : xm_I) := rfl
theorem r_X5_folded_32 : co_X5_folded[32]? = some ((111, .goto 33, 0, 0, 46, 0, 0, 0, []) : xm_I) := rfl
theorem r_X5_folded_33 : co_X5_folded[33]? = some ((114, .iload 4, 0, 0, 0, 0, 0, 0, []) : xm_I) := rfl
theorem r_X5_folded_34 : co_X5_folded[34]? = some ((116, .iload 4, 0, 0, 0, 0, 0, 0, []) : xm_I) := rfl
theorem r_X5_folded_35 : co_X5_folded[35]? = some ((118, .ifCond .le 7, 0, 0, 38, 0, 0, 0, []) : xm_I) := rfl
theorem r_X5_folded_36 : co_X5_folded[36]? = some ((121, .iconst (-1), 0, 0, 0, 0, (-1), 0, []) : xm_I) := rfl
theorem r_X5_folded_37 : co_X5_folded[37]? = some ((122, .goto 4, 0, 0, 39, 0, 0, 0, []) : xm_I) := rfl
theorem r_X5_folded_38 : co_X5_folded[38]? = some ((125, .iconst 1, 0, 0, 0, 0, 1, 0, []) : xm_I) := rfl
theorem r_X5_folded_39 : co_X5_folded[39]? = some ((126, .iadd, 0, 0, 0, 0, 0, 0, []) : xm_I) := rfl
theorem r_X5_folded_40 : co_X5_folded[40]? = some ((127, .istore 4, 0, 0, 0, 0, 0, 0, []) : xm_I) := rfl
theorem r_X5_folded_41 : co_X5_folded[41]? = some ((129, .goto 15, 0, 0, 46, 0, 0, 0, []) : xm_I) := rfl
theorem r_X5_folded_42 : co_X5_folded[42]? = some ((132, .iinc 4 1, 0, 0, 0, 0, 1, 0, []) : xm_I) := rfl
theorem r_X5_folded_43 : co_X5_folded[43]? = some ((135, .goto 9, 0, 0, 46, 0, 0, 0, []) : xm_I) := rfl
theorem r_X5_folded_44 : co_X5_folded[44]? = some ((138, .iinc 4 (-1), 0, 0, 0, 0, (-1), 0, []) : xm_I) := rfl
theorem r_X5_folded_45 : co_X5_folded[45]? = some ((141, .goto 3, 0, 0, 46, 0, 0, 0, []) : xm_I) := rfl
theorem r_X5_folded_46 : co_X5_folded[46]? = some ((144, .bipush 109, 0, 0, 0, 0, 109, 0, []) : xm_I) := rfl
theorem r_X5_folded_47 : co_X5_folded[47]? = some ((146, .iload_n 1, 0, 0, 0, 0, 0, 0, []) : xm_I) := rfl
theorem r_X5_folded_48 : co_X5_folded[48]? = some ((147, .ishr, 0, 0, 0, 0, 0, 0, []) : xm_I) := rfl
theorem r_X5_folded_49 : co_X5_folded[49]? = some ((148, .iconst 1, 0, 0, 0, 0, 1, 0, []) : xm_I) := rfl
theorem r_X5_folded_50 : co_X5_folded[50]? = some ((149, .iand, 0, 0, 0, 0, 0, 0, []) : xm_I) := rfl
theorem r_X5_folded_51 : co_X5_folded[51]? = some ((150, .iload_n 0, 0, 0, 0, 0, 0, 0, []) : xm_I) := rfl
theorem r_X5_folded_52 : co_X5_folded[52]? = some ((151, .invokestatic 25, 762, 41, 1, 0, 0, 0, []) : xm_I) := rfl
theorem r_X5_folded_53 : co_X5_folded[53]? = some ((154, .ixor, 0, 0, 0, 0, 0, 0, []) : xm_I) := rfl
theorem r_X5_folded_54 : co_X5_folded[54]? = some ((155, .istore 5, 0, 0, 0, 0, 0, 0, []) : xm_I) := rfl
theorem r_X5_folded_55 : co_X5_folded[55]? = some ((157, .iload_n 2, 0, 0, 0, 0, 0, 0, []) : xm_I) := rfl
theorem r_X5_folded_56 : co_X5_folded[56]? = some ((158, .iload_n 3, 0, 0, 0, 0, 0, 0, []) : xm_I) := rfl
theorem r_X5_folded_57 : co_X5_folded[57]? = some ((159, .iload_n 0, 0, 0, 0, 0, 0, 0, []) : xm_I) := rfl
theorem r_X5_folded_58 : co_X5_folded[58]? = some ((160, .invokestatic 28, 763, 40, 1, 0, 0, 0, []) : xm_I) := rfl
theorem r_X5_folded_59 : co_X5_folded[59]? = some ((163, .iload_n 1, 0, 0, 0, 0, 0, 0, []) : xm_I) := rfl
theorem r_X5_folded_60 : co_X5_folded[60]? = some ((164, .invokestatic 31, 764, 53, 2, 0, 0, 0, []) : xm_I) := rfl
theorem r_X5_folded_61 : co_X5_folded[61]? = some ((167, .iload 5, 0, 0, 0, 0, 0, 0, []) : xm_I) := rfl
theorem r_X5_folded_62 : co_X5_folded[62]? = some ((169, .iload 4, 0, 0, 0, 0, 0, 0, []) : xm_I) := rfl
theorem r_X5_folded_63 : co_X5_folded[63]? = some ((171, .invokestatic 35, 769, 33, 5, 0, 0, 0, []) : xm_I) := rfl
theorem r_X5_folded_64 : co_X5_folded[64]? = some ((174, .ireturn, 0, 0, 0, 0, 0, 0, []) : xm_I) := rfl
theorem p_X5_folded_0_0 {X : xm_X} {P : List xm_M} {d : Nat} {h : xm_H} {l0 : Int32} {l1 : Int32} {h0 : xm_H} {r0 : Int32} {h1 : xm_H} {r1 : Int32} {h2 : xm_H} {r2 : Int32} {h3 : xm_H} {r3 : Int32} {h4 : xm_H} {r4 : Int32} {h5 : xm_H} {r5 : Int32} {h6 : xm_H} {r6 : Int32} (q0 : xm_V X P d 38 [.int l0] h (some (.int r0)) h0) (q1 : xm_V X P d 39 [.int l0] h0 (some (.int r1)) h1) (q2 : xm_V X P d 42 [.int l0] h1 (some (.int r2)) h2) (q3 : l1 = (0 : Int32)) (q4 : xm_V X P d 41 [.int l0] h2 (some (.int r3)) h3) (q5 : xm_V X P d 40 [.int l0] h3 (some (.int r4)) h4) (q6 : xm_V X P d 53 [.int r4, .int l1] h4 (some (.int r5)) h5) (q7 : xm_V X P d 33 [.int r0, .int (r1 / (2 : Int32)), .int r5, .int ((((109 : Int32) >>> (l1 &&& 31)) &&& (1 : Int32)) ^^^ r3), .int r2] h5 (some (.int r6)) h6) : xm_E X P d co_X5_folded 0 [some (.int l0), some (.int l1), none, none, none, none] [] h (some (.int r6)) h6 := by
  refine xm_E_s r_X5_folded_0 rfl rfl ?_
  refine xm_E_cs [.int l0] [] r_X5_folded_1 rfl rfl rfl (Nat.le_of_ble_eq_true rfl) rfl q0 ?_
  refine xm_E_s (ls1 := [some (.int l0), some (.int l1), some (.int r0), none, none, none]) r_X5_folded_2 rfl rfl ?_
  refine xm_E_s r_X5_folded_3 rfl rfl ?_
  refine xm_E_cs [.int l0] [] r_X5_folded_4 rfl rfl rfl (Nat.le_of_ble_eq_true rfl) rfl q1 ?_
  refine xm_E_s (ls1 := [some (.int l0), some (.int l1), some (.int r0), some (.int r1), none, none]) r_X5_folded_5 rfl rfl ?_
  refine xm_E_s r_X5_folded_6 rfl rfl ?_
  refine xm_E_cs [.int l0] [] r_X5_folded_7 rfl rfl rfl (Nat.le_of_ble_eq_true rfl) rfl q2 ?_
  refine xm_E_s (ls1 := [some (.int l0), some (.int l1), some (.int r0), some (.int r1), some (.int r2), none]) r_X5_folded_8 rfl rfl ?_
  refine xm_E_s r_X5_folded_9 rfl rfl ?_
  refine xm_E_s r_X5_folded_10 rfl (xm_T_tab (0 : Int32) 11 rfl q3 (by decide) rfl) ?_
  refine xm_E_s r_X5_folded_11 rfl rfl ?_
  refine xm_E_s r_X5_folded_12 rfl rfl ?_
  refine xm_E_s r_X5_folded_13 rfl (xm_T_idiv rfl (by decide)) ?_
  refine xm_E_s (ls1 := [some (.int l0), some (.int l1), some (.int r0), some (.int (r1 / (2 : Int32))), some (.int r2), none]) r_X5_folded_14 rfl rfl ?_
  refine xm_E_s r_X5_folded_15 rfl rfl ?_
  refine xm_E_s r_X5_folded_46 rfl rfl ?_
  refine xm_E_s r_X5_folded_47 rfl rfl ?_
  refine xm_E_s r_X5_folded_48 rfl rfl ?_
  refine xm_E_s r_X5_folded_49 rfl rfl ?_
  refine xm_E_s r_X5_folded_50 rfl rfl ?_
  refine xm_E_s r_X5_folded_51 rfl rfl ?_
  refine xm_E_cs [.int l0] [.int (((109 : Int32) >>> (l1 &&& 31)) &&& (1 : Int32))] r_X5_folded_52 rfl rfl rfl (Nat.le_of_ble_eq_true rfl) rfl q4 ?_
  refine xm_E_s r_X5_folded_53 rfl rfl ?_
  refine xm_E_s (ls1 := [some (.int l0), some (.int l1), some (.int r0), some (.int (r1 / (2 : Int32))), some (.int r2), some (.int ((((109 : Int32) >>> (l1 &&& 31)) &&& (1 : Int32)) ^^^ r3))]) r_X5_folded_54 rfl rfl ?_
  refine xm_E_s r_X5_folded_55 rfl rfl ?_
  refine xm_E_s r_X5_folded_56 rfl rfl ?_
  refine xm_E_s r_X5_folded_57 rfl rfl ?_
  refine xm_E_cs [.int l0] [.int (r1 / (2 : Int32)), .int r0] r_X5_folded_58 rfl rfl rfl (Nat.le_of_ble_eq_true rfl) rfl q5 ?_
  refine xm_E_s r_X5_folded_59 rfl rfl ?_
  refine xm_E_cs [.int r4, .int l1] [.int (r1 / (2 : Int32)), .int r0] r_X5_folded_60 rfl rfl rfl (Nat.le_of_ble_eq_true rfl) rfl q6 ?_
  refine xm_E_s r_X5_folded_61 rfl rfl ?_
  refine xm_E_s r_X5_folded_62 rfl rfl ?_
  refine xm_E_cs [.int r0, .int (r1 / (2 : Int32)), .int r5, .int ((((109 : Int32) >>> (l1 &&& 31)) &&& (1 : Int32)) ^^^ r3), .int r2] [] r_X5_folded_63 rfl rfl rfl (Nat.le_of_ble_eq_true rfl) rfl q7 ?_
  exact xm_E_iret r_X5_folded_64 rfl rfl
theorem p_X5_folded_0_1 {X : xm_X} {P : List xm_M} {d : Nat} {h : xm_H} {l0 : Int32} {l1 : Int32} {h0 : xm_H} {r0 : Int32} {h1 : xm_H} {r1 : Int32} {h2 : xm_H} {r2 : Int32} {h3 : xm_H} {r3 : Int32} {h4 : xm_H} {r4 : Int32} {h5 : xm_H} {r5 : Int32} {h6 : xm_H} {r6 : Int32} (q0 : xm_V X P d 38 [.int l0] h (some (.int r0)) h0) (q1 : xm_V X P d 39 [.int l0] h0 (some (.int r1)) h1) (q2 : xm_V X P d 42 [.int l0] h1 (some (.int r2)) h2) (q3 : l1 = (1 : Int32)) (q4 : xm_V X P d 41 [.int l0] h2 (some (.int r3)) h3) (q5 : xm_V X P d 40 [.int l0] h3 (some (.int r4)) h4) (q6 : xm_V X P d 53 [.int r4, .int l1] h4 (some (.int r5)) h5) (q7 : xm_V X P d 33 [.int r0, .int (r1 / (2 : Int32)), .int r5, .int ((((109 : Int32) >>> (l1 &&& 31)) &&& (1 : Int32)) ^^^ r3), .int r2] h5 (some (.int r6)) h6) : xm_E X P d co_X5_folded 0 [some (.int l0), some (.int l1), none, none, none, none] [] h (some (.int r6)) h6 := by
  refine xm_E_s r_X5_folded_0 rfl rfl ?_
  refine xm_E_cs [.int l0] [] r_X5_folded_1 rfl rfl rfl (Nat.le_of_ble_eq_true rfl) rfl q0 ?_
  refine xm_E_s (ls1 := [some (.int l0), some (.int l1), some (.int r0), none, none, none]) r_X5_folded_2 rfl rfl ?_
  refine xm_E_s r_X5_folded_3 rfl rfl ?_
  refine xm_E_cs [.int l0] [] r_X5_folded_4 rfl rfl rfl (Nat.le_of_ble_eq_true rfl) rfl q1 ?_
  refine xm_E_s (ls1 := [some (.int l0), some (.int l1), some (.int r0), some (.int r1), none, none]) r_X5_folded_5 rfl rfl ?_
  refine xm_E_s r_X5_folded_6 rfl rfl ?_
  refine xm_E_cs [.int l0] [] r_X5_folded_7 rfl rfl rfl (Nat.le_of_ble_eq_true rfl) rfl q2 ?_
  refine xm_E_s (ls1 := [some (.int l0), some (.int l1), some (.int r0), some (.int r1), some (.int r2), none]) r_X5_folded_8 rfl rfl ?_
  refine xm_E_s r_X5_folded_9 rfl rfl ?_
  refine xm_E_s r_X5_folded_10 rfl (xm_T_tab (1 : Int32) 11 rfl q3 (by decide) rfl) ?_
  refine xm_E_s r_X5_folded_11 rfl rfl ?_
  refine xm_E_s r_X5_folded_12 rfl rfl ?_
  refine xm_E_s r_X5_folded_13 rfl (xm_T_idiv rfl (by decide)) ?_
  refine xm_E_s (ls1 := [some (.int l0), some (.int l1), some (.int r0), some (.int (r1 / (2 : Int32))), some (.int r2), none]) r_X5_folded_14 rfl rfl ?_
  refine xm_E_s r_X5_folded_15 rfl rfl ?_
  refine xm_E_s r_X5_folded_46 rfl rfl ?_
  refine xm_E_s r_X5_folded_47 rfl rfl ?_
  refine xm_E_s r_X5_folded_48 rfl rfl ?_
  refine xm_E_s r_X5_folded_49 rfl rfl ?_
  refine xm_E_s r_X5_folded_50 rfl rfl ?_
  refine xm_E_s r_X5_folded_51 rfl rfl ?_
  refine xm_E_cs [.int l0] [.int (((109 : Int32) >>> (l1 &&& 31)) &&& (1 : Int32))] r_X5_folded_52 rfl rfl rfl (Nat.le_of_ble_eq_true rfl) rfl q4 ?_
  refine xm_E_s r_X5_folded_53 rfl rfl ?_
  refine xm_E_s (ls1 := [some (.int l0), some (.int l1), some (.int r0), some (.int (r1 / (2 : Int32))), some (.int r2), some (.int ((((109 : Int32) >>> (l1 &&& 31)) &&& (1 : Int32)) ^^^ r3))]) r_X5_folded_54 rfl rfl ?_
  refine xm_E_s r_X5_folded_55 rfl rfl ?_
  refine xm_E_s r_X5_folded_56 rfl rfl ?_
  refine xm_E_s r_X5_folded_57 rfl rfl ?_
  refine xm_E_cs [.int l0] [.int (r1 / (2 : Int32)), .int r0] r_X5_folded_58 rfl rfl rfl (Nat.le_of_ble_eq_true rfl) rfl q5 ?_
  refine xm_E_s r_X5_folded_59 rfl rfl ?_
  refine xm_E_cs [.int r4, .int l1] [.int (r1 / (2 : Int32)), .int r0] r_X5_folded_60 rfl rfl rfl (Nat.le_of_ble_eq_true rfl) rfl q6 ?_
  refine xm_E_s r_X5_folded_61 rfl rfl ?_
  refine xm_E_s r_X5_folded_62 rfl rfl ?_
  refine xm_E_cs [.int r0, .int (r1 / (2 : Int32)), .int r5, .int ((((109 : Int32) >>> (l1 &&& 31)) &&& (1 : Int32)) ^^^ r3), .int r2] [] r_X5_folded_63 rfl rfl rfl (Nat.le_of_ble_eq_true rfl) rfl q7 ?_
  exact xm_E_iret r_X5_folded_64 rfl rfl
theorem p_X5_folded_0_2 {X : xm_X} {P : List xm_M} {d : Nat} {h : xm_H} {l0 : Int32} {l1 : Int32} {h0 : xm_H} {r0 : Int32} {h1 : xm_H} {r1 : Int32} {h2 : xm_H} {r2 : Int32} {h3 : xm_H} {r3 : Int32} {h4 : xm_H} {r4 : Int32} {h5 : xm_H} {r5 : Int32} {h6 : xm_H} {r6 : Int32} (q0 : xm_V X P d 38 [.int l0] h (some (.int r0)) h0) (q1 : xm_V X P d 39 [.int l0] h0 (some (.int r1)) h1) (q2 : xm_V X P d 42 [.int l0] h1 (some (.int r2)) h2) (q3 : l1 = (2 : Int32)) (q4 : xm_V X P d 41 [.int l0] h2 (some (.int r3)) h3) (q5 : xm_V X P d 40 [.int l0] h3 (some (.int r4)) h4) (q6 : xm_V X P d 53 [.int r4, .int l1] h4 (some (.int r5)) h5) (q7 : xm_V X P d 33 [.int r0, .int (r1 / (3 : Int32)), .int r5, .int ((((109 : Int32) >>> (l1 &&& 31)) &&& (1 : Int32)) ^^^ r3), .int r2] h5 (some (.int r6)) h6) : xm_E X P d co_X5_folded 0 [some (.int l0), some (.int l1), none, none, none, none] [] h (some (.int r6)) h6 := by
  refine xm_E_s r_X5_folded_0 rfl rfl ?_
  refine xm_E_cs [.int l0] [] r_X5_folded_1 rfl rfl rfl (Nat.le_of_ble_eq_true rfl) rfl q0 ?_
  refine xm_E_s (ls1 := [some (.int l0), some (.int l1), some (.int r0), none, none, none]) r_X5_folded_2 rfl rfl ?_
  refine xm_E_s r_X5_folded_3 rfl rfl ?_
  refine xm_E_cs [.int l0] [] r_X5_folded_4 rfl rfl rfl (Nat.le_of_ble_eq_true rfl) rfl q1 ?_
  refine xm_E_s (ls1 := [some (.int l0), some (.int l1), some (.int r0), some (.int r1), none, none]) r_X5_folded_5 rfl rfl ?_
  refine xm_E_s r_X5_folded_6 rfl rfl ?_
  refine xm_E_cs [.int l0] [] r_X5_folded_7 rfl rfl rfl (Nat.le_of_ble_eq_true rfl) rfl q2 ?_
  refine xm_E_s (ls1 := [some (.int l0), some (.int l1), some (.int r0), some (.int r1), some (.int r2), none]) r_X5_folded_8 rfl rfl ?_
  refine xm_E_s r_X5_folded_9 rfl rfl ?_
  refine xm_E_s r_X5_folded_10 rfl (xm_T_tab (2 : Int32) 16 rfl q3 (by decide) rfl) ?_
  refine xm_E_s r_X5_folded_16 rfl rfl ?_
  refine xm_E_s r_X5_folded_17 rfl rfl ?_
  refine xm_E_s r_X5_folded_18 rfl (xm_T_idiv rfl (by decide)) ?_
  refine xm_E_s (ls1 := [some (.int l0), some (.int l1), some (.int r0), some (.int (r1 / (3 : Int32))), some (.int r2), none]) r_X5_folded_19 rfl rfl ?_
  refine xm_E_s r_X5_folded_20 rfl rfl ?_
  refine xm_E_s r_X5_folded_46 rfl rfl ?_
  refine xm_E_s r_X5_folded_47 rfl rfl ?_
  refine xm_E_s r_X5_folded_48 rfl rfl ?_
  refine xm_E_s r_X5_folded_49 rfl rfl ?_
  refine xm_E_s r_X5_folded_50 rfl rfl ?_
  refine xm_E_s r_X5_folded_51 rfl rfl ?_
  refine xm_E_cs [.int l0] [.int (((109 : Int32) >>> (l1 &&& 31)) &&& (1 : Int32))] r_X5_folded_52 rfl rfl rfl (Nat.le_of_ble_eq_true rfl) rfl q4 ?_
  refine xm_E_s r_X5_folded_53 rfl rfl ?_
  refine xm_E_s (ls1 := [some (.int l0), some (.int l1), some (.int r0), some (.int (r1 / (3 : Int32))), some (.int r2), some (.int ((((109 : Int32) >>> (l1 &&& 31)) &&& (1 : Int32)) ^^^ r3))]) r_X5_folded_54 rfl rfl ?_
  refine xm_E_s r_X5_folded_55 rfl rfl ?_
  refine xm_E_s r_X5_folded_56 rfl rfl ?_
  refine xm_E_s r_X5_folded_57 rfl rfl ?_
  refine xm_E_cs [.int l0] [.int (r1 / (3 : Int32)), .int r0] r_X5_folded_58 rfl rfl rfl (Nat.le_of_ble_eq_true rfl) rfl q5 ?_
  refine xm_E_s r_X5_folded_59 rfl rfl ?_
  refine xm_E_cs [.int r4, .int l1] [.int (r1 / (3 : Int32)), .int r0] r_X5_folded_60 rfl rfl rfl (Nat.le_of_ble_eq_true rfl) rfl q6 ?_
  refine xm_E_s r_X5_folded_61 rfl rfl ?_
  refine xm_E_s r_X5_folded_62 rfl rfl ?_
  refine xm_E_cs [.int r0, .int (r1 / (3 : Int32)), .int r5, .int ((((109 : Int32) >>> (l1 &&& 31)) &&& (1 : Int32)) ^^^ r3), .int r2] [] r_X5_folded_63 rfl rfl rfl (Nat.le_of_ble_eq_true rfl) rfl q7 ?_
  exact xm_E_iret r_X5_folded_64 rfl rfl
theorem p_X5_folded_0_3 {X : xm_X} {P : List xm_M} {d : Nat} {h : xm_H} {l0 : Int32} {l1 : Int32} {h0 : xm_H} {r0 : Int32} {h1 : xm_H} {r1 : Int32} {h2 : xm_H} {r2 : Int32} {h3 : xm_H} {r3 : Int32} {h4 : xm_H} {r4 : Int32} {h5 : xm_H} {r5 : Int32} {h6 : xm_H} {r6 : Int32} (q0 : xm_V X P d 38 [.int l0] h (some (.int r0)) h0) (q1 : xm_V X P d 39 [.int l0] h0 (some (.int r1)) h1) (q2 : xm_V X P d 42 [.int l0] h1 (some (.int r2)) h2) (q3 : l1 = (3 : Int32)) (q4 : xm_V X P d 41 [.int l0] h2 (some (.int r3)) h3) (q5 : xm_V X P d 40 [.int l0] h3 (some (.int r4)) h4) (q6 : xm_V X P d 53 [.int r4, .int l1] h4 (some (.int r5)) h5) (q7 : xm_V X P d 33 [.int (r0 / (2 : Int32)), .int r1, .int r5, .int ((((109 : Int32) >>> (l1 &&& 31)) &&& (1 : Int32)) ^^^ r3), .int r2] h5 (some (.int r6)) h6) : xm_E X P d co_X5_folded 0 [some (.int l0), some (.int l1), none, none, none, none] [] h (some (.int r6)) h6 := by
  refine xm_E_s r_X5_folded_0 rfl rfl ?_
  refine xm_E_cs [.int l0] [] r_X5_folded_1 rfl rfl rfl (Nat.le_of_ble_eq_true rfl) rfl q0 ?_
  refine xm_E_s (ls1 := [some (.int l0), some (.int l1), some (.int r0), none, none, none]) r_X5_folded_2 rfl rfl ?_
  refine xm_E_s r_X5_folded_3 rfl rfl ?_
  refine xm_E_cs [.int l0] [] r_X5_folded_4 rfl rfl rfl (Nat.le_of_ble_eq_true rfl) rfl q1 ?_
  refine xm_E_s (ls1 := [some (.int l0), some (.int l1), some (.int r0), some (.int r1), none, none]) r_X5_folded_5 rfl rfl ?_
  refine xm_E_s r_X5_folded_6 rfl rfl ?_
  refine xm_E_cs [.int l0] [] r_X5_folded_7 rfl rfl rfl (Nat.le_of_ble_eq_true rfl) rfl q2 ?_
  refine xm_E_s (ls1 := [some (.int l0), some (.int l1), some (.int r0), some (.int r1), some (.int r2), none]) r_X5_folded_8 rfl rfl ?_
  refine xm_E_s r_X5_folded_9 rfl rfl ?_
  refine xm_E_s r_X5_folded_10 rfl (xm_T_tab (3 : Int32) 21 rfl q3 (by decide) rfl) ?_
  refine xm_E_s r_X5_folded_21 rfl rfl ?_
  refine xm_E_s r_X5_folded_22 rfl rfl ?_
  refine xm_E_s r_X5_folded_23 rfl (xm_T_idiv rfl (by decide)) ?_
  refine xm_E_s (ls1 := [some (.int l0), some (.int l1), some (.int (r0 / (2 : Int32))), some (.int r1), some (.int r2), none]) r_X5_folded_24 rfl rfl ?_
  refine xm_E_s r_X5_folded_25 rfl rfl ?_
  refine xm_E_s r_X5_folded_46 rfl rfl ?_
  refine xm_E_s r_X5_folded_47 rfl rfl ?_
  refine xm_E_s r_X5_folded_48 rfl rfl ?_
  refine xm_E_s r_X5_folded_49 rfl rfl ?_
  refine xm_E_s r_X5_folded_50 rfl rfl ?_
  refine xm_E_s r_X5_folded_51 rfl rfl ?_
  refine xm_E_cs [.int l0] [.int (((109 : Int32) >>> (l1 &&& 31)) &&& (1 : Int32))] r_X5_folded_52 rfl rfl rfl (Nat.le_of_ble_eq_true rfl) rfl q4 ?_
  refine xm_E_s r_X5_folded_53 rfl rfl ?_
  refine xm_E_s (ls1 := [some (.int l0), some (.int l1), some (.int (r0 / (2 : Int32))), some (.int r1), some (.int r2), some (.int ((((109 : Int32) >>> (l1 &&& 31)) &&& (1 : Int32)) ^^^ r3))]) r_X5_folded_54 rfl rfl ?_
  refine xm_E_s r_X5_folded_55 rfl rfl ?_
  refine xm_E_s r_X5_folded_56 rfl rfl ?_
  refine xm_E_s r_X5_folded_57 rfl rfl ?_
  refine xm_E_cs [.int l0] [.int r1, .int (r0 / (2 : Int32))] r_X5_folded_58 rfl rfl rfl (Nat.le_of_ble_eq_true rfl) rfl q5 ?_
  refine xm_E_s r_X5_folded_59 rfl rfl ?_
  refine xm_E_cs [.int r4, .int l1] [.int r1, .int (r0 / (2 : Int32))] r_X5_folded_60 rfl rfl rfl (Nat.le_of_ble_eq_true rfl) rfl q6 ?_
  refine xm_E_s r_X5_folded_61 rfl rfl ?_
  refine xm_E_s r_X5_folded_62 rfl rfl ?_
  refine xm_E_cs [.int (r0 / (2 : Int32)), .int r1, .int r5, .int ((((109 : Int32) >>> (l1 &&& 31)) &&& (1 : Int32)) ^^^ r3), .int r2] [] r_X5_folded_63 rfl rfl rfl (Nat.le_of_ble_eq_true rfl) rfl q7 ?_
  exact xm_E_iret r_X5_folded_64 rfl rfl
theorem p_X5_folded_0_4 {X : xm_X} {P : List xm_M} {d : Nat} {h : xm_H} {l0 : Int32} {l1 : Int32} {h0 : xm_H} {r0 : Int32} {h1 : xm_H} {r1 : Int32} {h2 : xm_H} {r2 : Int32} {h3 : xm_H} {r3 : Int32} {h4 : xm_H} {r4 : Int32} {h5 : xm_H} {r5 : Int32} {h6 : xm_H} {r6 : Int32} (q0 : xm_V X P d 38 [.int l0] h (some (.int r0)) h0) (q1 : xm_V X P d 39 [.int l0] h0 (some (.int r1)) h1) (q2 : xm_V X P d 42 [.int l0] h1 (some (.int r2)) h2) (q3 : l1 = (4 : Int32)) (q4 : xm_V X P d 41 [.int l0] h2 (some (.int r3)) h3) (q5 : xm_V X P d 40 [.int l0] h3 (some (.int r4)) h4) (q6 : xm_V X P d 53 [.int r4, .int l1] h4 (some (.int r5)) h5) (q7 : xm_V X P d 33 [.int (r0 / (2 : Int32)), .int r1, .int r5, .int ((((109 : Int32) >>> (l1 &&& 31)) &&& (1 : Int32)) ^^^ r3), .int r2] h5 (some (.int r6)) h6) : xm_E X P d co_X5_folded 0 [some (.int l0), some (.int l1), none, none, none, none] [] h (some (.int r6)) h6 := by
  refine xm_E_s r_X5_folded_0 rfl rfl ?_
  refine xm_E_cs [.int l0] [] r_X5_folded_1 rfl rfl rfl (Nat.le_of_ble_eq_true rfl) rfl q0 ?_
  refine xm_E_s (ls1 := [some (.int l0), some (.int l1), some (.int r0), none, none, none]) r_X5_folded_2 rfl rfl ?_
  refine xm_E_s r_X5_folded_3 rfl rfl ?_
  refine xm_E_cs [.int l0] [] r_X5_folded_4 rfl rfl rfl (Nat.le_of_ble_eq_true rfl) rfl q1 ?_
  refine xm_E_s (ls1 := [some (.int l0), some (.int l1), some (.int r0), some (.int r1), none, none]) r_X5_folded_5 rfl rfl ?_
  refine xm_E_s r_X5_folded_6 rfl rfl ?_
  refine xm_E_cs [.int l0] [] r_X5_folded_7 rfl rfl rfl (Nat.le_of_ble_eq_true rfl) rfl q2 ?_
  refine xm_E_s (ls1 := [some (.int l0), some (.int l1), some (.int r0), some (.int r1), some (.int r2), none]) r_X5_folded_8 rfl rfl ?_
  refine xm_E_s r_X5_folded_9 rfl rfl ?_
  refine xm_E_s r_X5_folded_10 rfl (xm_T_tab (4 : Int32) 21 rfl q3 (by decide) rfl) ?_
  refine xm_E_s r_X5_folded_21 rfl rfl ?_
  refine xm_E_s r_X5_folded_22 rfl rfl ?_
  refine xm_E_s r_X5_folded_23 rfl (xm_T_idiv rfl (by decide)) ?_
  refine xm_E_s (ls1 := [some (.int l0), some (.int l1), some (.int (r0 / (2 : Int32))), some (.int r1), some (.int r2), none]) r_X5_folded_24 rfl rfl ?_
  refine xm_E_s r_X5_folded_25 rfl rfl ?_
  refine xm_E_s r_X5_folded_46 rfl rfl ?_
  refine xm_E_s r_X5_folded_47 rfl rfl ?_
  refine xm_E_s r_X5_folded_48 rfl rfl ?_
  refine xm_E_s r_X5_folded_49 rfl rfl ?_
  refine xm_E_s r_X5_folded_50 rfl rfl ?_
  refine xm_E_s r_X5_folded_51 rfl rfl ?_
  refine xm_E_cs [.int l0] [.int (((109 : Int32) >>> (l1 &&& 31)) &&& (1 : Int32))] r_X5_folded_52 rfl rfl rfl (Nat.le_of_ble_eq_true rfl) rfl q4 ?_
  refine xm_E_s r_X5_folded_53 rfl rfl ?_
  refine xm_E_s (ls1 := [some (.int l0), some (.int l1), some (.int (r0 / (2 : Int32))), some (.int r1), some (.int r2), some (.int ((((109 : Int32) >>> (l1 &&& 31)) &&& (1 : Int32)) ^^^ r3))]) r_X5_folded_54 rfl rfl ?_
  refine xm_E_s r_X5_folded_55 rfl rfl ?_
  refine xm_E_s r_X5_folded_56 rfl rfl ?_
  refine xm_E_s r_X5_folded_57 rfl rfl ?_
  refine xm_E_cs [.int l0] [.int r1, .int (r0 / (2 : Int32))] r_X5_folded_58 rfl rfl rfl (Nat.le_of_ble_eq_true rfl) rfl q5 ?_
  refine xm_E_s r_X5_folded_59 rfl rfl ?_
  refine xm_E_cs [.int r4, .int l1] [.int r1, .int (r0 / (2 : Int32))] r_X5_folded_60 rfl rfl rfl (Nat.le_of_ble_eq_true rfl) rfl q6 ?_
  refine xm_E_s r_X5_folded_61 rfl rfl ?_
  refine xm_E_s r_X5_folded_62 rfl rfl ?_
  refine xm_E_cs [.int (r0 / (2 : Int32)), .int r1, .int r5, .int ((((109 : Int32) >>> (l1 &&& 31)) &&& (1 : Int32)) ^^^ r3), .int r2] [] r_X5_folded_63 rfl rfl rfl (Nat.le_of_ble_eq_true rfl) rfl q7 ?_
  exact xm_E_iret r_X5_folded_64 rfl rfl
theorem p_X5_folded_0_5 {X : xm_X} {P : List xm_M} {d : Nat} {h : xm_H} {l0 : Int32} {l1 : Int32} {h0 : xm_H} {r0 : Int32} {h1 : xm_H} {r1 : Int32} {h2 : xm_H} {r2 : Int32} {h3 : xm_H} {r3 : Int32} {h4 : xm_H} {r4 : Int32} {h5 : xm_H} {r5 : Int32} {h6 : xm_H} {r6 : Int32} (q0 : xm_V X P d 38 [.int l0] h (some (.int r0)) h0) (q1 : xm_V X P d 39 [.int l0] h0 (some (.int r1)) h1) (q2 : xm_V X P d 42 [.int l0] h1 (some (.int r2)) h2) (q3 : l1 = (5 : Int32)) (q4 : xm_V X P d 41 [.int l0] h2 (some (.int r3)) h3) (q5 : xm_V X P d 40 [.int l0] h3 (some (.int r4)) h4) (q6 : xm_V X P d 53 [.int r4, .int l1] h4 (some (.int r5)) h5) (q7 : xm_V X P d 33 [.int (r0 / (2 : Int32)), .int r1, .int r5, .int ((((109 : Int32) >>> (l1 &&& 31)) &&& (1 : Int32)) ^^^ r3), .int r2] h5 (some (.int r6)) h6) : xm_E X P d co_X5_folded 0 [some (.int l0), some (.int l1), none, none, none, none] [] h (some (.int r6)) h6 := by
  refine xm_E_s r_X5_folded_0 rfl rfl ?_
  refine xm_E_cs [.int l0] [] r_X5_folded_1 rfl rfl rfl (Nat.le_of_ble_eq_true rfl) rfl q0 ?_
  refine xm_E_s (ls1 := [some (.int l0), some (.int l1), some (.int r0), none, none, none]) r_X5_folded_2 rfl rfl ?_
  refine xm_E_s r_X5_folded_3 rfl rfl ?_
  refine xm_E_cs [.int l0] [] r_X5_folded_4 rfl rfl rfl (Nat.le_of_ble_eq_true rfl) rfl q1 ?_
  refine xm_E_s (ls1 := [some (.int l0), some (.int l1), some (.int r0), some (.int r1), none, none]) r_X5_folded_5 rfl rfl ?_
  refine xm_E_s r_X5_folded_6 rfl rfl ?_
  refine xm_E_cs [.int l0] [] r_X5_folded_7 rfl rfl rfl (Nat.le_of_ble_eq_true rfl) rfl q2 ?_
  refine xm_E_s (ls1 := [some (.int l0), some (.int l1), some (.int r0), some (.int r1), some (.int r2), none]) r_X5_folded_8 rfl rfl ?_
  refine xm_E_s r_X5_folded_9 rfl rfl ?_
  refine xm_E_s r_X5_folded_10 rfl (xm_T_tab (5 : Int32) 21 rfl q3 (by decide) rfl) ?_
  refine xm_E_s r_X5_folded_21 rfl rfl ?_
  refine xm_E_s r_X5_folded_22 rfl rfl ?_
  refine xm_E_s r_X5_folded_23 rfl (xm_T_idiv rfl (by decide)) ?_
  refine xm_E_s (ls1 := [some (.int l0), some (.int l1), some (.int (r0 / (2 : Int32))), some (.int r1), some (.int r2), none]) r_X5_folded_24 rfl rfl ?_
  refine xm_E_s r_X5_folded_25 rfl rfl ?_
  refine xm_E_s r_X5_folded_46 rfl rfl ?_
  refine xm_E_s r_X5_folded_47 rfl rfl ?_
  refine xm_E_s r_X5_folded_48 rfl rfl ?_
  refine xm_E_s r_X5_folded_49 rfl rfl ?_
  refine xm_E_s r_X5_folded_50 rfl rfl ?_
  refine xm_E_s r_X5_folded_51 rfl rfl ?_
  refine xm_E_cs [.int l0] [.int (((109 : Int32) >>> (l1 &&& 31)) &&& (1 : Int32))] r_X5_folded_52 rfl rfl rfl (Nat.le_of_ble_eq_true rfl) rfl q4 ?_
  refine xm_E_s r_X5_folded_53 rfl rfl ?_
  refine xm_E_s (ls1 := [some (.int l0), some (.int l1), some (.int (r0 / (2 : Int32))), some (.int r1), some (.int r2), some (.int ((((109 : Int32) >>> (l1 &&& 31)) &&& (1 : Int32)) ^^^ r3))]) r_X5_folded_54 rfl rfl ?_
  refine xm_E_s r_X5_folded_55 rfl rfl ?_
  refine xm_E_s r_X5_folded_56 rfl rfl ?_
  refine xm_E_s r_X5_folded_57 rfl rfl ?_
  refine xm_E_cs [.int l0] [.int r1, .int (r0 / (2 : Int32))] r_X5_folded_58 rfl rfl rfl (Nat.le_of_ble_eq_true rfl) rfl q5 ?_
  refine xm_E_s r_X5_folded_59 rfl rfl ?_
  refine xm_E_cs [.int r4, .int l1] [.int r1, .int (r0 / (2 : Int32))] r_X5_folded_60 rfl rfl rfl (Nat.le_of_ble_eq_true rfl) rfl q6 ?_
  refine xm_E_s r_X5_folded_61 rfl rfl ?_
  refine xm_E_s r_X5_folded_62 rfl rfl ?_
  refine xm_E_cs [.int (r0 / (2 : Int32)), .int r1, .int r5, .int ((((109 : Int32) >>> (l1 &&& 31)) &&& (1 : Int32)) ^^^ r3), .int r2] [] r_X5_folded_63 rfl rfl rfl (Nat.le_of_ble_eq_true rfl) rfl q7 ?_
  exact xm_E_iret r_X5_folded_64 rfl rfl
theorem p_X5_folded_0_6 {X : xm_X} {P : List xm_M} {d : Nat} {h : xm_H} {l0 : Int32} {l1 : Int32} {h0 : xm_H} {r0 : Int32} {h1 : xm_H} {r1 : Int32} {h2 : xm_H} {r2 : Int32} {h3 : xm_H} {r3 : Int32} {h4 : xm_H} {r4 : Int32} {h5 : xm_H} {r5 : Int32} {h6 : xm_H} {r6 : Int32} (q0 : xm_V X P d 38 [.int l0] h (some (.int r0)) h0) (q1 : xm_V X P d 39 [.int l0] h0 (some (.int r1)) h1) (q2 : xm_V X P d 42 [.int l0] h1 (some (.int r2)) h2) (q3 : l1 = (6 : Int32)) (q4 : xm_V X P d 41 [.int l0] h2 (some (.int r3)) h3) (q5 : xm_V X P d 40 [.int l0] h3 (some (.int r4)) h4) (q6 : xm_V X P d 53 [.int r4, .int l1] h4 (some (.int r5)) h5) (q7 : xm_V X P d 33 [.int r0, .int r1, .int r5, .int ((((109 : Int32) >>> (l1 &&& 31)) &&& (1 : Int32)) ^^^ r3), .int r2] h5 (some (.int r6)) h6) : xm_E X P d co_X5_folded 0 [some (.int l0), some (.int l1), none, none, none, none] [] h (some (.int r6)) h6 := by
  refine xm_E_s r_X5_folded_0 rfl rfl ?_
  refine xm_E_cs [.int l0] [] r_X5_folded_1 rfl rfl rfl (Nat.le_of_ble_eq_true rfl) rfl q0 ?_
  refine xm_E_s (ls1 := [some (.int l0), some (.int l1), some (.int r0), none, none, none]) r_X5_folded_2 rfl rfl ?_
  refine xm_E_s r_X5_folded_3 rfl rfl ?_
  refine xm_E_cs [.int l0] [] r_X5_folded_4 rfl rfl rfl (Nat.le_of_ble_eq_true rfl) rfl q1 ?_
  refine xm_E_s (ls1 := [some (.int l0), some (.int l1), some (.int r0), some (.int r1), none, none]) r_X5_folded_5 rfl rfl ?_
  refine xm_E_s r_X5_folded_6 rfl rfl ?_
  refine xm_E_cs [.int l0] [] r_X5_folded_7 rfl rfl rfl (Nat.le_of_ble_eq_true rfl) rfl q2 ?_
  refine xm_E_s (ls1 := [some (.int l0), some (.int l1), some (.int r0), some (.int r1), some (.int r2), none]) r_X5_folded_8 rfl rfl ?_
  refine xm_E_s r_X5_folded_9 rfl rfl ?_
  refine xm_E_s r_X5_folded_10 rfl (xm_T_tab (6 : Int32) 46 rfl q3 (by decide) rfl) ?_
  refine xm_E_s r_X5_folded_46 rfl rfl ?_
  refine xm_E_s r_X5_folded_47 rfl rfl ?_
  refine xm_E_s r_X5_folded_48 rfl rfl ?_
  refine xm_E_s r_X5_folded_49 rfl rfl ?_
  refine xm_E_s r_X5_folded_50 rfl rfl ?_
  refine xm_E_s r_X5_folded_51 rfl rfl ?_
  refine xm_E_cs [.int l0] [.int (((109 : Int32) >>> (l1 &&& 31)) &&& (1 : Int32))] r_X5_folded_52 rfl rfl rfl (Nat.le_of_ble_eq_true rfl) rfl q4 ?_
  refine xm_E_s r_X5_folded_53 rfl rfl ?_
  refine xm_E_s (ls1 := [some (.int l0), some (.int l1), some (.int r0), some (.int r1), some (.int r2), some (.int ((((109 : Int32) >>> (l1 &&& 31)) &&& (1 : Int32)) ^^^ r3))]) r_X5_folded_54 rfl rfl ?_
  refine xm_E_s r_X5_folded_55 rfl rfl ?_
  refine xm_E_s r_X5_folded_56 rfl rfl ?_
  refine xm_E_s r_X5_folded_57 rfl rfl ?_
  refine xm_E_cs [.int l0] [.int r1, .int r0] r_X5_folded_58 rfl rfl rfl (Nat.le_of_ble_eq_true rfl) rfl q5 ?_
  refine xm_E_s r_X5_folded_59 rfl rfl ?_
  refine xm_E_cs [.int r4, .int l1] [.int r1, .int r0] r_X5_folded_60 rfl rfl rfl (Nat.le_of_ble_eq_true rfl) rfl q6 ?_
  refine xm_E_s r_X5_folded_61 rfl rfl ?_
  refine xm_E_s r_X5_folded_62 rfl rfl ?_
  refine xm_E_cs [.int r0, .int r1, .int r5, .int ((((109 : Int32) >>> (l1 &&& 31)) &&& (1 : Int32)) ^^^ r3), .int r2] [] r_X5_folded_63 rfl rfl rfl (Nat.le_of_ble_eq_true rfl) rfl q7 ?_
  exact xm_E_iret r_X5_folded_64 rfl rfl
theorem p_X5_folded_0_7 {X : xm_X} {P : List xm_M} {d : Nat} {h : xm_H} {l0 : Int32} {l1 : Int32} {h0 : xm_H} {r0 : Int32} {h1 : xm_H} {r1 : Int32} {h2 : xm_H} {r2 : Int32} {h3 : xm_H} {r3 : Int32} {h4 : xm_H} {r4 : Int32} {h5 : xm_H} {r5 : Int32} {h6 : xm_H} {r6 : Int32} (q0 : xm_V X P d 38 [.int l0] h (some (.int r0)) h0) (q1 : xm_V X P d 39 [.int l0] h0 (some (.int r1)) h1) (q2 : xm_V X P d 42 [.int l0] h1 (some (.int r2)) h2) (q3 : l1 = (7 : Int32)) (q4 : xm_V X P d 41 [.int l0] h2 (some (.int r3)) h3) (q5 : xm_V X P d 40 [.int l0] h3 (some (.int r4)) h4) (q6 : xm_V X P d 53 [.int r4, .int l1] h4 (some (.int r5)) h5) (q7 : xm_V X P d 33 [.int r0, .int r1, .int r5, .int ((((109 : Int32) >>> (l1 &&& 31)) &&& (1 : Int32)) ^^^ r3), .int r2] h5 (some (.int r6)) h6) : xm_E X P d co_X5_folded 0 [some (.int l0), some (.int l1), none, none, none, none] [] h (some (.int r6)) h6 := by
  refine xm_E_s r_X5_folded_0 rfl rfl ?_
  refine xm_E_cs [.int l0] [] r_X5_folded_1 rfl rfl rfl (Nat.le_of_ble_eq_true rfl) rfl q0 ?_
  refine xm_E_s (ls1 := [some (.int l0), some (.int l1), some (.int r0), none, none, none]) r_X5_folded_2 rfl rfl ?_
  refine xm_E_s r_X5_folded_3 rfl rfl ?_
  refine xm_E_cs [.int l0] [] r_X5_folded_4 rfl rfl rfl (Nat.le_of_ble_eq_true rfl) rfl q1 ?_
  refine xm_E_s (ls1 := [some (.int l0), some (.int l1), some (.int r0), some (.int r1), none, none]) r_X5_folded_5 rfl rfl ?_
  refine xm_E_s r_X5_folded_6 rfl rfl ?_
  refine xm_E_cs [.int l0] [] r_X5_folded_7 rfl rfl rfl (Nat.le_of_ble_eq_true rfl) rfl q2 ?_
  refine xm_E_s (ls1 := [some (.int l0), some (.int l1), some (.int r0), some (.int r1), some (.int r2), none]) r_X5_folded_8 rfl rfl ?_
  refine xm_E_s r_X5_folded_9 rfl rfl ?_
  refine xm_E_s r_X5_folded_10 rfl (xm_T_tab (7 : Int32) 46 rfl q3 (by decide) rfl) ?_
  refine xm_E_s r_X5_folded_46 rfl rfl ?_
  refine xm_E_s r_X5_folded_47 rfl rfl ?_
  refine xm_E_s r_X5_folded_48 rfl rfl ?_
  refine xm_E_s r_X5_folded_49 rfl rfl ?_
  refine xm_E_s r_X5_folded_50 rfl rfl ?_
  refine xm_E_s r_X5_folded_51 rfl rfl ?_
  refine xm_E_cs [.int l0] [.int (((109 : Int32) >>> (l1 &&& 31)) &&& (1 : Int32))] r_X5_folded_52 rfl rfl rfl (Nat.le_of_ble_eq_true rfl) rfl q4 ?_
  refine xm_E_s r_X5_folded_53 rfl rfl ?_
  refine xm_E_s (ls1 := [some (.int l0), some (.int l1), some (.int r0), some (.int r1), some (.int r2), some (.int ((((109 : Int32) >>> (l1 &&& 31)) &&& (1 : Int32)) ^^^ r3))]) r_X5_folded_54 rfl rfl ?_
  refine xm_E_s r_X5_folded_55 rfl rfl ?_
  refine xm_E_s r_X5_folded_56 rfl rfl ?_
  refine xm_E_s r_X5_folded_57 rfl rfl ?_
  refine xm_E_cs [.int l0] [.int r1, .int r0] r_X5_folded_58 rfl rfl rfl (Nat.le_of_ble_eq_true rfl) rfl q5 ?_
  refine xm_E_s r_X5_folded_59 rfl rfl ?_
  refine xm_E_cs [.int r4, .int l1] [.int r1, .int r0] r_X5_folded_60 rfl rfl rfl (Nat.le_of_ble_eq_true rfl) rfl q6 ?_
  refine xm_E_s r_X5_folded_61 rfl rfl ?_
  refine xm_E_s r_X5_folded_62 rfl rfl ?_
  refine xm_E_cs [.int r0, .int r1, .int r5, .int ((((109 : Int32) >>> (l1 &&& 31)) &&& (1 : Int32)) ^^^ r3), .int r2] [] r_X5_folded_63 rfl rfl rfl (Nat.le_of_ble_eq_true rfl) rfl q7 ?_
  exact xm_E_iret r_X5_folded_64 rfl rfl
theorem p_X5_folded_0_8 {X : xm_X} {P : List xm_M} {d : Nat} {h : xm_H} {l0 : Int32} {l1 : Int32} {h0 : xm_H} {r0 : Int32} {h1 : xm_H} {r1 : Int32} {h2 : xm_H} {r2 : Int32} {h3 : xm_H} {r3 : Int32} {h4 : xm_H} {r4 : Int32} {h5 : xm_H} {r5 : Int32} {h6 : xm_H} {r6 : Int32} {h7 : xm_H} {r7 : Int32} {h8 : xm_H} {r8 : Int32} (q0 : xm_V X P d 38 [.int l0] h (some (.int r0)) h0) (q1 : xm_V X P d 39 [.int l0] h0 (some (.int r1)) h1) (q2 : xm_V X P d 42 [.int l0] h1 (some (.int r2)) h2) (q3 : l1 = (8 : Int32)) (q4 : xm_V X P d 39 [.int l0] h2 (some (.int r3)) h3) (q5 : xm_V X P d 38 [.int l0] h3 (some (.int r4)) h4) (q6 : xm_V X P d 41 [.int l0] h4 (some (.int r5)) h5) (q7 : xm_V X P d 40 [.int l0] h5 (some (.int r6)) h6) (q8 : xm_V X P d 53 [.int r6, .int l1] h6 (some (.int r7)) h7) (q9 : xm_V X P d 33 [.int r3, .int r4, .int r7, .int ((((109 : Int32) >>> (l1 &&& 31)) &&& (1 : Int32)) ^^^ r5), .int r2] h7 (some (.int r8)) h8) : xm_E X P d co_X5_folded 0 [some (.int l0), some (.int l1), none, none, none, none] [] h (some (.int r8)) h8 := by
  refine xm_E_s r_X5_folded_0 rfl rfl ?_
  refine xm_E_cs [.int l0] [] r_X5_folded_1 rfl rfl rfl (Nat.le_of_ble_eq_true rfl) rfl q0 ?_
  refine xm_E_s (ls1 := [some (.int l0), some (.int l1), some (.int r0), none, none, none]) r_X5_folded_2 rfl rfl ?_
  refine xm_E_s r_X5_folded_3 rfl rfl ?_
  refine xm_E_cs [.int l0] [] r_X5_folded_4 rfl rfl rfl (Nat.le_of_ble_eq_true rfl) rfl q1 ?_
  refine xm_E_s (ls1 := [some (.int l0), some (.int l1), some (.int r0), some (.int r1), none, none]) r_X5_folded_5 rfl rfl ?_
  refine xm_E_s r_X5_folded_6 rfl rfl ?_
  refine xm_E_cs [.int l0] [] r_X5_folded_7 rfl rfl rfl (Nat.le_of_ble_eq_true rfl) rfl q2 ?_
  refine xm_E_s (ls1 := [some (.int l0), some (.int l1), some (.int r0), some (.int r1), some (.int r2), none]) r_X5_folded_8 rfl rfl ?_
  refine xm_E_s r_X5_folded_9 rfl rfl ?_
  refine xm_E_s r_X5_folded_10 rfl (xm_T_tab (8 : Int32) 26 rfl q3 (by decide) rfl) ?_
  refine xm_E_s r_X5_folded_26 rfl rfl ?_
  refine xm_E_cs [.int l0] [] r_X5_folded_27 rfl rfl rfl (Nat.le_of_ble_eq_true rfl) rfl q4 ?_
  refine xm_E_s (ls1 := [some (.int l0), some (.int l1), some (.int r3), some (.int r1), some (.int r2), none]) r_X5_folded_28 rfl rfl ?_
  refine xm_E_s r_X5_folded_29 rfl rfl ?_
  refine xm_E_cs [.int l0] [] r_X5_folded_30 rfl rfl rfl (Nat.le_of_ble_eq_true rfl) rfl q5 ?_
  refine xm_E_s (ls1 := [some (.int l0), some (.int l1), some (.int r3), some (.int r4), some (.int r2), none]) r_X5_folded_31 rfl rfl ?_
  refine xm_E_s r_X5_folded_32 rfl rfl ?_
  refine xm_E_s r_X5_folded_46 rfl rfl ?_
  refine xm_E_s r_X5_folded_47 rfl rfl ?_
  refine xm_E_s r_X5_folded_48 rfl rfl ?_
  refine xm_E_s r_X5_folded_49 rfl rfl ?_
  refine xm_E_s r_X5_folded_50 rfl rfl ?_
  refine xm_E_s r_X5_folded_51 rfl rfl ?_
  refine xm_E_cs [.int l0] [.int (((109 : Int32) >>> (l1 &&& 31)) &&& (1 : Int32))] r_X5_folded_52 rfl rfl rfl (Nat.le_of_ble_eq_true rfl) rfl q6 ?_
  refine xm_E_s r_X5_folded_53 rfl rfl ?_
  refine xm_E_s (ls1 := [some (.int l0), some (.int l1), some (.int r3), some (.int r4), some (.int r2), some (.int ((((109 : Int32) >>> (l1 &&& 31)) &&& (1 : Int32)) ^^^ r5))]) r_X5_folded_54 rfl rfl ?_
  refine xm_E_s r_X5_folded_55 rfl rfl ?_
  refine xm_E_s r_X5_folded_56 rfl rfl ?_
  refine xm_E_s r_X5_folded_57 rfl rfl ?_
  refine xm_E_cs [.int l0] [.int r4, .int r3] r_X5_folded_58 rfl rfl rfl (Nat.le_of_ble_eq_true rfl) rfl q7 ?_
  refine xm_E_s r_X5_folded_59 rfl rfl ?_
  refine xm_E_cs [.int r6, .int l1] [.int r4, .int r3] r_X5_folded_60 rfl rfl rfl (Nat.le_of_ble_eq_true rfl) rfl q8 ?_
  refine xm_E_s r_X5_folded_61 rfl rfl ?_
  refine xm_E_s r_X5_folded_62 rfl rfl ?_
  refine xm_E_cs [.int r3, .int r4, .int r7, .int ((((109 : Int32) >>> (l1 &&& 31)) &&& (1 : Int32)) ^^^ r5), .int r2] [] r_X5_folded_63 rfl rfl rfl (Nat.le_of_ble_eq_true rfl) rfl q9 ?_
  exact xm_E_iret r_X5_folded_64 rfl rfl
theorem p_X5_folded_0_9 {X : xm_X} {P : List xm_M} {d : Nat} {h : xm_H} {l0 : Int32} {l1 : Int32} {h0 : xm_H} {r0 : Int32} {h1 : xm_H} {r1 : Int32} {h2 : xm_H} {r2 : Int32} {h3 : xm_H} {r3 : Int32} {h4 : xm_H} {r4 : Int32} {h5 : xm_H} {r5 : Int32} {h6 : xm_H} {r6 : Int32} (q0 : xm_V X P d 38 [.int l0] h (some (.int r0)) h0) (q1 : xm_V X P d 39 [.int l0] h0 (some (.int r1)) h1) (q2 : xm_V X P d 42 [.int l0] h1 (some (.int r2)) h2) (q3 : l1 = (9 : Int32)) (q4 : r2 ≤ (0 : Int32)) (q5 : xm_V X P d 41 [.int l0] h2 (some (.int r3)) h3) (q6 : xm_V X P d 40 [.int l0] h3 (some (.int r4)) h4) (q7 : xm_V X P d 53 [.int r4, .int l1] h4 (some (.int r5)) h5) (q8 : xm_V X P d 33 [.int r0, .int r1, .int r5, .int ((((109 : Int32) >>> (l1 &&& 31)) &&& (1 : Int32)) ^^^ r3), .int (r2 + (1 : Int32))] h5 (some (.int r6)) h6) : xm_E X P d co_X5_folded 0 [some (.int l0), some (.int l1), none, none, none, none] [] h (some (.int r6)) h6 := by
  refine xm_E_s r_X5_folded_0 rfl rfl ?_
  refine xm_E_cs [.int l0] [] r_X5_folded_1 rfl rfl rfl (Nat.le_of_ble_eq_true rfl) rfl q0 ?_
  refine xm_E_s (ls1 := [some (.int l0), some (.int l1), some (.int r0), none, none, none]) r_X5_folded_2 rfl rfl ?_
  refine xm_E_s r_X5_folded_3 rfl rfl ?_
  refine xm_E_cs [.int l0] [] r_X5_folded_4 rfl rfl rfl (Nat.le_of_ble_eq_true rfl) rfl q1 ?_
  refine xm_E_s (ls1 := [some (.int l0), some (.int l1), some (.int r0), some (.int r1), none, none]) r_X5_folded_5 rfl rfl ?_
  refine xm_E_s r_X5_folded_6 rfl rfl ?_
  refine xm_E_cs [.int l0] [] r_X5_folded_7 rfl rfl rfl (Nat.le_of_ble_eq_true rfl) rfl q2 ?_
  refine xm_E_s (ls1 := [some (.int l0), some (.int l1), some (.int r0), some (.int r1), some (.int r2), none]) r_X5_folded_8 rfl rfl ?_
  refine xm_E_s r_X5_folded_9 rfl rfl ?_
  refine xm_E_s r_X5_folded_10 rfl (xm_T_tab (9 : Int32) 33 rfl q3 (by decide) rfl) ?_
  refine xm_E_s r_X5_folded_33 rfl rfl ?_
  refine xm_E_s r_X5_folded_34 rfl rfl ?_
  refine xm_E_s r_X5_folded_35 rfl rfl ?_
  refine xm_E_t q4 ?_
  refine xm_E_s r_X5_folded_38 rfl rfl ?_
  refine xm_E_s r_X5_folded_39 rfl rfl ?_
  refine xm_E_s (ls1 := [some (.int l0), some (.int l1), some (.int r0), some (.int r1), some (.int (r2 + (1 : Int32))), none]) r_X5_folded_40 rfl rfl ?_
  refine xm_E_s r_X5_folded_41 rfl rfl ?_
  refine xm_E_s r_X5_folded_46 rfl rfl ?_
  refine xm_E_s r_X5_folded_47 rfl rfl ?_
  refine xm_E_s r_X5_folded_48 rfl rfl ?_
  refine xm_E_s r_X5_folded_49 rfl rfl ?_
  refine xm_E_s r_X5_folded_50 rfl rfl ?_
  refine xm_E_s r_X5_folded_51 rfl rfl ?_
  refine xm_E_cs [.int l0] [.int (((109 : Int32) >>> (l1 &&& 31)) &&& (1 : Int32))] r_X5_folded_52 rfl rfl rfl (Nat.le_of_ble_eq_true rfl) rfl q5 ?_
  refine xm_E_s r_X5_folded_53 rfl rfl ?_
  refine xm_E_s (ls1 := [some (.int l0), some (.int l1), some (.int r0), some (.int r1), some (.int (r2 + (1 : Int32))), some (.int ((((109 : Int32) >>> (l1 &&& 31)) &&& (1 : Int32)) ^^^ r3))]) r_X5_folded_54 rfl rfl ?_
  refine xm_E_s r_X5_folded_55 rfl rfl ?_
  refine xm_E_s r_X5_folded_56 rfl rfl ?_
  refine xm_E_s r_X5_folded_57 rfl rfl ?_
  refine xm_E_cs [.int l0] [.int r1, .int r0] r_X5_folded_58 rfl rfl rfl (Nat.le_of_ble_eq_true rfl) rfl q6 ?_
  refine xm_E_s r_X5_folded_59 rfl rfl ?_
  refine xm_E_cs [.int r4, .int l1] [.int r1, .int r0] r_X5_folded_60 rfl rfl rfl (Nat.le_of_ble_eq_true rfl) rfl q7 ?_
  refine xm_E_s r_X5_folded_61 rfl rfl ?_
  refine xm_E_s r_X5_folded_62 rfl rfl ?_
  refine xm_E_cs [.int r0, .int r1, .int r5, .int ((((109 : Int32) >>> (l1 &&& 31)) &&& (1 : Int32)) ^^^ r3), .int (r2 + (1 : Int32))] [] r_X5_folded_63 rfl rfl rfl (Nat.le_of_ble_eq_true rfl) rfl q8 ?_
  exact xm_E_iret r_X5_folded_64 rfl rfl
theorem p_X5_folded_0_10 {X : xm_X} {P : List xm_M} {d : Nat} {h : xm_H} {l0 : Int32} {l1 : Int32} {h0 : xm_H} {r0 : Int32} {h1 : xm_H} {r1 : Int32} {h2 : xm_H} {r2 : Int32} {h3 : xm_H} {r3 : Int32} {h4 : xm_H} {r4 : Int32} {h5 : xm_H} {r5 : Int32} {h6 : xm_H} {r6 : Int32} (q0 : xm_V X P d 38 [.int l0] h (some (.int r0)) h0) (q1 : xm_V X P d 39 [.int l0] h0 (some (.int r1)) h1) (q2 : xm_V X P d 42 [.int l0] h1 (some (.int r2)) h2) (q3 : l1 = (9 : Int32)) (q4 : ¬ (r2 ≤ (0 : Int32))) (q5 : xm_V X P d 41 [.int l0] h2 (some (.int r3)) h3) (q6 : xm_V X P d 40 [.int l0] h3 (some (.int r4)) h4) (q7 : xm_V X P d 53 [.int r4, .int l1] h4 (some (.int r5)) h5) (q8 : xm_V X P d 33 [.int r0, .int r1, .int r5, .int ((((109 : Int32) >>> (l1 &&& 31)) &&& (1 : Int32)) ^^^ r3), .int (r2 + (-1 : Int32))] h5 (some (.int r6)) h6) : xm_E X P d co_X5_folded 0 [some (.int l0), some (.int l1), none, none, none, none] [] h (some (.int r6)) h6 := by
  refine xm_E_s r_X5_folded_0 rfl rfl ?_
  refine xm_E_cs [.int l0] [] r_X5_folded_1 rfl rfl rfl (Nat.le_of_ble_eq_true rfl) rfl q0 ?_
  refine xm_E_s (ls1 := [some (.int l0), some (.int l1), some (.int r0), none, none, none]) r_X5_folded_2 rfl rfl ?_
  refine xm_E_s r_X5_folded_3 rfl rfl ?_
  refine xm_E_cs [.int l0] [] r_X5_folded_4 rfl rfl rfl (Nat.le_of_ble_eq_true rfl) rfl q1 ?_
  refine xm_E_s (ls1 := [some (.int l0), some (.int l1), some (.int r0), some (.int r1), none, none]) r_X5_folded_5 rfl rfl ?_
  refine xm_E_s r_X5_folded_6 rfl rfl ?_
  refine xm_E_cs [.int l0] [] r_X5_folded_7 rfl rfl rfl (Nat.le_of_ble_eq_true rfl) rfl q2 ?_
  refine xm_E_s (ls1 := [some (.int l0), some (.int l1), some (.int r0), some (.int r1), some (.int r2), none]) r_X5_folded_8 rfl rfl ?_
  refine xm_E_s r_X5_folded_9 rfl rfl ?_
  refine xm_E_s r_X5_folded_10 rfl (xm_T_tab (9 : Int32) 33 rfl q3 (by decide) rfl) ?_
  refine xm_E_s r_X5_folded_33 rfl rfl ?_
  refine xm_E_s r_X5_folded_34 rfl rfl ?_
  refine xm_E_s r_X5_folded_35 rfl rfl ?_
  refine xm_E_f q4 ?_
  refine xm_E_s r_X5_folded_36 rfl rfl ?_
  refine xm_E_s r_X5_folded_37 rfl rfl ?_
  refine xm_E_s r_X5_folded_39 rfl rfl ?_
  refine xm_E_s (ls1 := [some (.int l0), some (.int l1), some (.int r0), some (.int r1), some (.int (r2 + (-1 : Int32))), none]) r_X5_folded_40 rfl rfl ?_
  refine xm_E_s r_X5_folded_41 rfl rfl ?_
  refine xm_E_s r_X5_folded_46 rfl rfl ?_
  refine xm_E_s r_X5_folded_47 rfl rfl ?_
  refine xm_E_s r_X5_folded_48 rfl rfl ?_
  refine xm_E_s r_X5_folded_49 rfl rfl ?_
  refine xm_E_s r_X5_folded_50 rfl rfl ?_
  refine xm_E_s r_X5_folded_51 rfl rfl ?_
  refine xm_E_cs [.int l0] [.int (((109 : Int32) >>> (l1 &&& 31)) &&& (1 : Int32))] r_X5_folded_52 rfl rfl rfl (Nat.le_of_ble_eq_true rfl) rfl q5 ?_
  refine xm_E_s r_X5_folded_53 rfl rfl ?_
  refine xm_E_s (ls1 := [some (.int l0), some (.int l1), some (.int r0), some (.int r1), some (.int (r2 + (-1 : Int32))), some (.int ((((109 : Int32) >>> (l1 &&& 31)) &&& (1 : Int32)) ^^^ r3))]) r_X5_folded_54 rfl rfl ?_
  refine xm_E_s r_X5_folded_55 rfl rfl ?_
  refine xm_E_s r_X5_folded_56 rfl rfl ?_
  refine xm_E_s r_X5_folded_57 rfl rfl ?_
  refine xm_E_cs [.int l0] [.int r1, .int r0] r_X5_folded_58 rfl rfl rfl (Nat.le_of_ble_eq_true rfl) rfl q6 ?_
  refine xm_E_s r_X5_folded_59 rfl rfl ?_
  refine xm_E_cs [.int r4, .int l1] [.int r1, .int r0] r_X5_folded_60 rfl rfl rfl (Nat.le_of_ble_eq_true rfl) rfl q7 ?_
  refine xm_E_s r_X5_folded_61 rfl rfl ?_
  refine xm_E_s r_X5_folded_62 rfl rfl ?_
  refine xm_E_cs [.int r0, .int r1, .int r5, .int ((((109 : Int32) >>> (l1 &&& 31)) &&& (1 : Int32)) ^^^ r3), .int (r2 + (-1 : Int32))] [] r_X5_folded_63 rfl rfl rfl (Nat.le_of_ble_eq_true rfl) rfl q8 ?_
  exact xm_E_iret r_X5_folded_64 rfl rfl
theorem p_X5_folded_0_11 {X : xm_X} {P : List xm_M} {d : Nat} {h : xm_H} {l0 : Int32} {l1 : Int32} {h0 : xm_H} {r0 : Int32} {h1 : xm_H} {r1 : Int32} {h2 : xm_H} {r2 : Int32} {h3 : xm_H} {r3 : Int32} {h4 : xm_H} {r4 : Int32} {h5 : xm_H} {r5 : Int32} {h6 : xm_H} {r6 : Int32} (q0 : xm_V X P d 38 [.int l0] h (some (.int r0)) h0) (q1 : xm_V X P d 39 [.int l0] h0 (some (.int r1)) h1) (q2 : xm_V X P d 42 [.int l0] h1 (some (.int r2)) h2) (q3 : l1 = (10 : Int32)) (q4 : xm_V X P d 41 [.int l0] h2 (some (.int r3)) h3) (q5 : xm_V X P d 40 [.int l0] h3 (some (.int r4)) h4) (q6 : xm_V X P d 53 [.int r4, .int l1] h4 (some (.int r5)) h5) (q7 : xm_V X P d 33 [.int r0, .int r1, .int r5, .int ((((109 : Int32) >>> (l1 &&& 31)) &&& (1 : Int32)) ^^^ r3), .int (r2 + (1 : Int32))] h5 (some (.int r6)) h6) : xm_E X P d co_X5_folded 0 [some (.int l0), some (.int l1), none, none, none, none] [] h (some (.int r6)) h6 := by
  refine xm_E_s r_X5_folded_0 rfl rfl ?_
  refine xm_E_cs [.int l0] [] r_X5_folded_1 rfl rfl rfl (Nat.le_of_ble_eq_true rfl) rfl q0 ?_
  refine xm_E_s (ls1 := [some (.int l0), some (.int l1), some (.int r0), none, none, none]) r_X5_folded_2 rfl rfl ?_
  refine xm_E_s r_X5_folded_3 rfl rfl ?_
  refine xm_E_cs [.int l0] [] r_X5_folded_4 rfl rfl rfl (Nat.le_of_ble_eq_true rfl) rfl q1 ?_
  refine xm_E_s (ls1 := [some (.int l0), some (.int l1), some (.int r0), some (.int r1), none, none]) r_X5_folded_5 rfl rfl ?_
  refine xm_E_s r_X5_folded_6 rfl rfl ?_
  refine xm_E_cs [.int l0] [] r_X5_folded_7 rfl rfl rfl (Nat.le_of_ble_eq_true rfl) rfl q2 ?_
  refine xm_E_s (ls1 := [some (.int l0), some (.int l1), some (.int r0), some (.int r1), some (.int r2), none]) r_X5_folded_8 rfl rfl ?_
  refine xm_E_s r_X5_folded_9 rfl rfl ?_
  refine xm_E_s r_X5_folded_10 rfl (xm_T_tab (10 : Int32) 42 rfl q3 (by decide) rfl) ?_
  refine xm_E_s (ls1 := [some (.int l0), some (.int l1), some (.int r0), some (.int r1), some (.int (r2 + (1 : Int32))), none]) r_X5_folded_42 rfl rfl ?_
  refine xm_E_s r_X5_folded_43 rfl rfl ?_
  refine xm_E_s r_X5_folded_46 rfl rfl ?_
  refine xm_E_s r_X5_folded_47 rfl rfl ?_
  refine xm_E_s r_X5_folded_48 rfl rfl ?_
  refine xm_E_s r_X5_folded_49 rfl rfl ?_
  refine xm_E_s r_X5_folded_50 rfl rfl ?_
  refine xm_E_s r_X5_folded_51 rfl rfl ?_
  refine xm_E_cs [.int l0] [.int (((109 : Int32) >>> (l1 &&& 31)) &&& (1 : Int32))] r_X5_folded_52 rfl rfl rfl (Nat.le_of_ble_eq_true rfl) rfl q4 ?_
  refine xm_E_s r_X5_folded_53 rfl rfl ?_
  refine xm_E_s (ls1 := [some (.int l0), some (.int l1), some (.int r0), some (.int r1), some (.int (r2 + (1 : Int32))), some (.int ((((109 : Int32) >>> (l1 &&& 31)) &&& (1 : Int32)) ^^^ r3))]) r_X5_folded_54 rfl rfl ?_
  refine xm_E_s r_X5_folded_55 rfl rfl ?_
  refine xm_E_s r_X5_folded_56 rfl rfl ?_
  refine xm_E_s r_X5_folded_57 rfl rfl ?_
  refine xm_E_cs [.int l0] [.int r1, .int r0] r_X5_folded_58 rfl rfl rfl (Nat.le_of_ble_eq_true rfl) rfl q5 ?_
  refine xm_E_s r_X5_folded_59 rfl rfl ?_
  refine xm_E_cs [.int r4, .int l1] [.int r1, .int r0] r_X5_folded_60 rfl rfl rfl (Nat.le_of_ble_eq_true rfl) rfl q6 ?_
  refine xm_E_s r_X5_folded_61 rfl rfl ?_
  refine xm_E_s r_X5_folded_62 rfl rfl ?_
  refine xm_E_cs [.int r0, .int r1, .int r5, .int ((((109 : Int32) >>> (l1 &&& 31)) &&& (1 : Int32)) ^^^ r3), .int (r2 + (1 : Int32))] [] r_X5_folded_63 rfl rfl rfl (Nat.le_of_ble_eq_true rfl) rfl q7 ?_
  exact xm_E_iret r_X5_folded_64 rfl rfl
theorem p_X5_folded_0_12 {X : xm_X} {P : List xm_M} {d : Nat} {h : xm_H} {l0 : Int32} {l1 : Int32} {h0 : xm_H} {r0 : Int32} {h1 : xm_H} {r1 : Int32} {h2 : xm_H} {r2 : Int32} {h3 : xm_H} {r3 : Int32} {h4 : xm_H} {r4 : Int32} {h5 : xm_H} {r5 : Int32} {h6 : xm_H} {r6 : Int32} (q0 : xm_V X P d 38 [.int l0] h (some (.int r0)) h0) (q1 : xm_V X P d 39 [.int l0] h0 (some (.int r1)) h1) (q2 : xm_V X P d 42 [.int l0] h1 (some (.int r2)) h2) (q3 : l1 = (11 : Int32)) (q4 : xm_V X P d 41 [.int l0] h2 (some (.int r3)) h3) (q5 : xm_V X P d 40 [.int l0] h3 (some (.int r4)) h4) (q6 : xm_V X P d 53 [.int r4, .int l1] h4 (some (.int r5)) h5) (q7 : xm_V X P d 33 [.int r0, .int r1, .int r5, .int ((((109 : Int32) >>> (l1 &&& 31)) &&& (1 : Int32)) ^^^ r3), .int (r2 + (-1 : Int32))] h5 (some (.int r6)) h6) : xm_E X P d co_X5_folded 0 [some (.int l0), some (.int l1), none, none, none, none] [] h (some (.int r6)) h6 := by
  refine xm_E_s r_X5_folded_0 rfl rfl ?_
  refine xm_E_cs [.int l0] [] r_X5_folded_1 rfl rfl rfl (Nat.le_of_ble_eq_true rfl) rfl q0 ?_
  refine xm_E_s (ls1 := [some (.int l0), some (.int l1), some (.int r0), none, none, none]) r_X5_folded_2 rfl rfl ?_
  refine xm_E_s r_X5_folded_3 rfl rfl ?_
  refine xm_E_cs [.int l0] [] r_X5_folded_4 rfl rfl rfl (Nat.le_of_ble_eq_true rfl) rfl q1 ?_
  refine xm_E_s (ls1 := [some (.int l0), some (.int l1), some (.int r0), some (.int r1), none, none]) r_X5_folded_5 rfl rfl ?_
  refine xm_E_s r_X5_folded_6 rfl rfl ?_
  refine xm_E_cs [.int l0] [] r_X5_folded_7 rfl rfl rfl (Nat.le_of_ble_eq_true rfl) rfl q2 ?_
  refine xm_E_s (ls1 := [some (.int l0), some (.int l1), some (.int r0), some (.int r1), some (.int r2), none]) r_X5_folded_8 rfl rfl ?_
  refine xm_E_s r_X5_folded_9 rfl rfl ?_
  refine xm_E_s r_X5_folded_10 rfl (xm_T_tab (11 : Int32) 44 rfl q3 (by decide) rfl) ?_
  refine xm_E_s (ls1 := [some (.int l0), some (.int l1), some (.int r0), some (.int r1), some (.int (r2 + (-1 : Int32))), none]) r_X5_folded_44 rfl rfl ?_
  refine xm_E_s r_X5_folded_45 rfl rfl ?_
  refine xm_E_s r_X5_folded_46 rfl rfl ?_
  refine xm_E_s r_X5_folded_47 rfl rfl ?_
  refine xm_E_s r_X5_folded_48 rfl rfl ?_
  refine xm_E_s r_X5_folded_49 rfl rfl ?_
  refine xm_E_s r_X5_folded_50 rfl rfl ?_
  refine xm_E_s r_X5_folded_51 rfl rfl ?_
  refine xm_E_cs [.int l0] [.int (((109 : Int32) >>> (l1 &&& 31)) &&& (1 : Int32))] r_X5_folded_52 rfl rfl rfl (Nat.le_of_ble_eq_true rfl) rfl q4 ?_
  refine xm_E_s r_X5_folded_53 rfl rfl ?_
  refine xm_E_s (ls1 := [some (.int l0), some (.int l1), some (.int r0), some (.int r1), some (.int (r2 + (-1 : Int32))), some (.int ((((109 : Int32) >>> (l1 &&& 31)) &&& (1 : Int32)) ^^^ r3))]) r_X5_folded_54 rfl rfl ?_
  refine xm_E_s r_X5_folded_55 rfl rfl ?_
  refine xm_E_s r_X5_folded_56 rfl rfl ?_
  refine xm_E_s r_X5_folded_57 rfl rfl ?_
  refine xm_E_cs [.int l0] [.int r1, .int r0] r_X5_folded_58 rfl rfl rfl (Nat.le_of_ble_eq_true rfl) rfl q5 ?_
  refine xm_E_s r_X5_folded_59 rfl rfl ?_
  refine xm_E_cs [.int r4, .int l1] [.int r1, .int r0] r_X5_folded_60 rfl rfl rfl (Nat.le_of_ble_eq_true rfl) rfl q6 ?_
  refine xm_E_s r_X5_folded_61 rfl rfl ?_
  refine xm_E_s r_X5_folded_62 rfl rfl ?_
  refine xm_E_cs [.int r0, .int r1, .int r5, .int ((((109 : Int32) >>> (l1 &&& 31)) &&& (1 : Int32)) ^^^ r3), .int (r2 + (-1 : Int32))] [] r_X5_folded_63 rfl rfl rfl (Nat.le_of_ble_eq_true rfl) rfl q7 ?_
  exact xm_E_iret r_X5_folded_64 rfl rfl
theorem p_X5_folded_0_13 {X : xm_X} {P : List xm_M} {d : Nat} {h : xm_H} {l0 : Int32} {l1 : Int32} {h0 : xm_H} {r0 : Int32} {h1 : xm_H} {r1 : Int32} {h2 : xm_H} {r2 : Int32} {h3 : xm_H} {r3 : Int32} {h4 : xm_H} {r4 : Int32} {h5 : xm_H} {r5 : Int32} {h6 : xm_H} {r6 : Int32} (q0 : xm_V X P d 38 [.int l0] h (some (.int r0)) h0) (q1 : xm_V X P d 39 [.int l0] h0 (some (.int r1)) h1) (q2 : xm_V X P d 42 [.int l0] h1 (some (.int r2)) h2) (q3 : l1.toInt < 0 ∨ 11 < l1.toInt) (q4 : xm_V X P d 41 [.int l0] h2 (some (.int r3)) h3) (q5 : xm_V X P d 40 [.int l0] h3 (some (.int r4)) h4) (q6 : xm_V X P d 53 [.int r4, .int l1] h4 (some (.int r5)) h5) (q7 : xm_V X P d 33 [.int r0, .int r1, .int r5, .int ((((109 : Int32) >>> (l1 &&& 31)) &&& (1 : Int32)) ^^^ r3), .int r2] h5 (some (.int r6)) h6) : xm_E X P d co_X5_folded 0 [some (.int l0), some (.int l1), none, none, none, none] [] h (some (.int r6)) h6 := by
  refine xm_E_s r_X5_folded_0 rfl rfl ?_
  refine xm_E_cs [.int l0] [] r_X5_folded_1 rfl rfl rfl (Nat.le_of_ble_eq_true rfl) rfl q0 ?_
  refine xm_E_s (ls1 := [some (.int l0), some (.int l1), some (.int r0), none, none, none]) r_X5_folded_2 rfl rfl ?_
  refine xm_E_s r_X5_folded_3 rfl rfl ?_
  refine xm_E_cs [.int l0] [] r_X5_folded_4 rfl rfl rfl (Nat.le_of_ble_eq_true rfl) rfl q1 ?_
  refine xm_E_s (ls1 := [some (.int l0), some (.int l1), some (.int r0), some (.int r1), none, none]) r_X5_folded_5 rfl rfl ?_
  refine xm_E_s r_X5_folded_6 rfl rfl ?_
  refine xm_E_cs [.int l0] [] r_X5_folded_7 rfl rfl rfl (Nat.le_of_ble_eq_true rfl) rfl q2 ?_
  refine xm_E_s (ls1 := [some (.int l0), some (.int l1), some (.int r0), some (.int r1), some (.int r2), none]) r_X5_folded_8 rfl rfl ?_
  refine xm_E_s r_X5_folded_9 rfl rfl ?_
  refine xm_E_s r_X5_folded_10 rfl (xm_T_tabd rfl q3) ?_
  refine xm_E_s r_X5_folded_46 rfl rfl ?_
  refine xm_E_s r_X5_folded_47 rfl rfl ?_
  refine xm_E_s r_X5_folded_48 rfl rfl ?_
  refine xm_E_s r_X5_folded_49 rfl rfl ?_
  refine xm_E_s r_X5_folded_50 rfl rfl ?_
  refine xm_E_s r_X5_folded_51 rfl rfl ?_
  refine xm_E_cs [.int l0] [.int (((109 : Int32) >>> (l1 &&& 31)) &&& (1 : Int32))] r_X5_folded_52 rfl rfl rfl (Nat.le_of_ble_eq_true rfl) rfl q4 ?_
  refine xm_E_s r_X5_folded_53 rfl rfl ?_
  refine xm_E_s (ls1 := [some (.int l0), some (.int l1), some (.int r0), some (.int r1), some (.int r2), some (.int ((((109 : Int32) >>> (l1 &&& 31)) &&& (1 : Int32)) ^^^ r3))]) r_X5_folded_54 rfl rfl ?_
  refine xm_E_s r_X5_folded_55 rfl rfl ?_
  refine xm_E_s r_X5_folded_56 rfl rfl ?_
  refine xm_E_s r_X5_folded_57 rfl rfl ?_
  refine xm_E_cs [.int l0] [.int r1, .int r0] r_X5_folded_58 rfl rfl rfl (Nat.le_of_ble_eq_true rfl) rfl q5 ?_
  refine xm_E_s r_X5_folded_59 rfl rfl ?_
  refine xm_E_cs [.int r4, .int l1] [.int r1, .int r0] r_X5_folded_60 rfl rfl rfl (Nat.le_of_ble_eq_true rfl) rfl q6 ?_
  refine xm_E_s r_X5_folded_61 rfl rfl ?_
  refine xm_E_s r_X5_folded_62 rfl rfl ?_
  refine xm_E_cs [.int r0, .int r1, .int r5, .int ((((109 : Int32) >>> (l1 &&& 31)) &&& (1 : Int32)) ^^^ r3), .int r2] [] r_X5_folded_63 rfl rfl rfl (Nat.le_of_ble_eq_true rfl) rfl q7 ?_
  exact xm_E_iret r_X5_folded_64 rfl rfl
theorem r_X5_hemBehind_0 : co_X5_hemBehind[0]? = some ((0, .iload_n 1, 0, 0, 0, 0, 0, 0, []) : xm_I) := rfl
theorem r_X5_hemBehind_1 : co_X5_hemBehind[1]? = some ((1, .ifCond .lt 14, 0, 0, 8, 0, 0, 0, []) : xm_I) := rfl
theorem r_X5_hemBehind_2 : co_X5_hemBehind[2]? = some ((4, .iload_n 1, 0, 0, 0, 0, 0, 0, []) : xm_I) := rfl
theorem r_X5_hemBehind_3 : co_X5_hemBehind[3]? = some ((5, .bipush 8, 0, 0, 0, 0, 8, 0, []) : xm_I) := rfl
theorem r_X5_hemBehind_4 : co_X5_hemBehind[4]? = some ((7, .if_icmp .gt 8, 0, 0, 8, 0, 0, 0, []) : xm_I) := rfl
theorem r_X5_hemBehind_5 : co_X5_hemBehind[5]? = some ((10, .iload_n 0, 0, 0, 0, 0, 0, 0, []) : xm_I) := rfl
theorem r_X5_hemBehind_6 : co_X5_hemBehind[6]? = some ((11, .iconst 5, 0, 0, 0, 0, 5, 0, []) : xm_I) := rfl
theorem r_X5_hemBehind_7 : co_X5_hemBehind[7]? = some ((12, .if_icmp .lt 5, 0, 0, 10, 0, 0, 0, []) : xm_I) := rfl
theorem r_X5_hemBehind_8 : co_X5_hemBehind[8]? = some ((15, .iload_n 0, 0, 0, 0, 0, 0, 0, []) : xm_I) := rfl
theorem r_X5_hemBehind_9 : co_X5_hemBehind[9]? = some ((16, .ireturn, 0, 0, 0, 0, 0, 0, []) : xm_I) := rfl
theorem r_X5_hemBehind_10 : co_X5_hemBehind[10]? = some ((17, .getstatic 39, 767, 0, 3, 0, 0, 0, []) : xm_I) := rfl
theorem r_X5_hemBehind_11 : co_X5_hemBehind[11]? = some ((20, .iload_n 1, 0, 0, 0, 0, 0, 0, []) : xm_I) := rfl
theorem r_X5_hemBehind_12 : co_X5_hemBehind[12]? = some ((21, .iconst 5, 0, 0, 0, 0, 5, 0, []) : xm_I) := rfl
theorem r_X5_hemBehind_13 : co_X5_hemBehind[13]? = some ((22, .imul, 0, 0, 0, 0, 0, 0, []) : xm_I) := rfl
theorem r_X5_hemBehind_14 : co_X5_hemBehind[14]? = some ((23, .iload_n 0, 0, 0, 0, 0, 0, 0, []) : xm_I) := rfl
theorem r_X5_hemBehind_15 : co_X5_hemBehind[15]? = some ((24, .iadd, 0, 0, 0, 0, 0, 0, []) : xm_I) := rfl
theorem r_X5_hemBehind_16 : co_X5_hemBehind[16]? = some ((25, .iaload, 0, 0, 0, 0, 0, 0, []) : xm_I) := rfl
theorem r_X5_hemBehind_17 : co_X5_hemBehind[17]? = some ((26, .ireturn, 0, 0, 0, 0, 0, 0, []) : xm_I) := rfl
theorem p_X5_hemBehind_0_0 {X : xm_X} {P : List xm_M} {d : Nat} {h : xm_H} {l0 : Int32} {l1 : Int32} (q0 : l1 < (0 : Int32)) : xm_E X P d co_X5_hemBehind 0 [some (.int l0), some (.int l1)] [] h (some (.int l0)) h := by
  refine xm_E_s r_X5_hemBehind_0 rfl rfl ?_
  refine xm_E_s r_X5_hemBehind_1 rfl rfl ?_
  refine xm_E_t q0 ?_
  refine xm_E_s r_X5_hemBehind_8 rfl rfl ?_
  exact xm_E_iret r_X5_hemBehind_9 rfl rfl
theorem p_X5_hemBehind_0_1 {X : xm_X} {P : List xm_M} {d : Nat} {h : xm_H} {l0 : Int32} {l1 : Int32} (q0 : ¬ (l1 < (0 : Int32))) (q1 : (8 : Int32) < l1) : xm_E X P d co_X5_hemBehind 0 [some (.int l0), some (.int l1)] [] h (some (.int l0)) h := by
  refine xm_E_s r_X5_hemBehind_0 rfl rfl ?_
  refine xm_E_s r_X5_hemBehind_1 rfl rfl ?_
  refine xm_E_f q0 ?_
  refine xm_E_s r_X5_hemBehind_2 rfl rfl ?_
  refine xm_E_s r_X5_hemBehind_3 rfl rfl ?_
  refine xm_E_s r_X5_hemBehind_4 rfl rfl ?_
  refine xm_E_t q1 ?_
  refine xm_E_s r_X5_hemBehind_8 rfl rfl ?_
  exact xm_E_iret r_X5_hemBehind_9 rfl rfl
theorem p_X5_hemBehind_0_2 {X : xm_X} {P : List xm_M} {d : Nat} {h : xm_H} {l0 : Int32} {l1 : Int32} {n0 : Nat} {f0 : Nat → Int32} (q0 : ¬ (l1 < (0 : Int32))) (q1 : ¬ ((8 : Int32) < l1)) (q2 : l0 < (5 : Int32)) (q3 : X.2.2.2 3 = some (.ref 902)) (q4 : X.1[902]? = none) (q5 : X.2.1 902 = some (0, n0, f0)) (q6 : ¬ ((l1 * (5 : Int32)) + l0 < 0 ∨ n0 ≤ ((l1 * (5 : Int32)) + l0).toNatClampNeg)) : xm_E X P d co_X5_hemBehind 0 [some (.int l0), some (.int l1)] [] h (some (.int (f0 (((l1 * (5 : Int32)) + l0).toNatClampNeg)))) h := by
  refine xm_E_s r_X5_hemBehind_0 rfl rfl ?_
  refine xm_E_s r_X5_hemBehind_1 rfl rfl ?_
  refine xm_E_f q0 ?_
  refine xm_E_s r_X5_hemBehind_2 rfl rfl ?_
  refine xm_E_s r_X5_hemBehind_3 rfl rfl ?_
  refine xm_E_s r_X5_hemBehind_4 rfl rfl ?_
  refine xm_E_f q1 ?_
  refine xm_E_s r_X5_hemBehind_5 rfl rfl ?_
  refine xm_E_s r_X5_hemBehind_6 rfl rfl ?_
  refine xm_E_s r_X5_hemBehind_7 rfl rfl ?_
  refine xm_E_t q2 ?_
  refine xm_E_s r_X5_hemBehind_10 rfl (by simp only [xm_step, xm_in, xm_b, q3]; rfl) ?_
  refine xm_E_s r_X5_hemBehind_11 rfl rfl ?_
  refine xm_E_s r_X5_hemBehind_12 rfl rfl ?_
  refine xm_E_s r_X5_hemBehind_13 rfl rfl ?_
  refine xm_E_s r_X5_hemBehind_14 rfl rfl ?_
  refine xm_E_s r_X5_hemBehind_15 rfl rfl ?_
  refine xm_E_s r_X5_hemBehind_16 rfl (xm_T_ialx rfl q4 q5 (by decide) q6) ?_
  exact xm_E_iret r_X5_hemBehind_17 rfl rfl
theorem p_X5_hemBehind_0_3 {X : xm_X} {P : List xm_M} {d : Nat} {h : xm_H} {l0 : Int32} {l1 : Int32} (q0 : ¬ (l1 < (0 : Int32))) (q1 : ¬ ((8 : Int32) < l1)) (q2 : ¬ (l0 < (5 : Int32))) : xm_E X P d co_X5_hemBehind 0 [some (.int l0), some (.int l1)] [] h (some (.int l0)) h := by
  refine xm_E_s r_X5_hemBehind_0 rfl rfl ?_
  refine xm_E_s r_X5_hemBehind_1 rfl rfl ?_
  refine xm_E_f q0 ?_
  refine xm_E_s r_X5_hemBehind_2 rfl rfl ?_
  refine xm_E_s r_X5_hemBehind_3 rfl rfl ?_
  refine xm_E_s r_X5_hemBehind_4 rfl rfl ?_
  refine xm_E_f q1 ?_
  refine xm_E_s r_X5_hemBehind_5 rfl rfl ?_
  refine xm_E_s r_X5_hemBehind_6 rfl rfl ?_
  refine xm_E_s r_X5_hemBehind_7 rfl rfl ?_
  refine xm_E_f q2 ?_
  refine xm_E_s r_X5_hemBehind_8 rfl rfl ?_
  exact xm_E_iret r_X5_hemBehind_9 rfl rfl
theorem r_X0_secondsOf_0 : co_X0_secondsOf[0]? = some ((0, .iload_n 1, 0, 0, 0, 0, 0, 0, []) : xm_I) := rfl
theorem r_X0_secondsOf_1 : co_X0_secondsOf[1]? = some ((1, .ifCond .lt 11, 0, 0, 6, 0, 0, 0, []) : xm_I) := rfl
theorem r_X0_secondsOf_2 : co_X0_secondsOf[2]? = some ((4, .iload_n 1, 0, 0, 0, 0, 0, 0, []) : xm_I) := rfl
theorem r_X0_secondsOf_3 : co_X0_secondsOf[3]? = some ((5, .getstatic 119, 774, 0, 2, 0, 0, 0, []) : xm_I) := rfl
theorem r_X0_secondsOf_4 : co_X0_secondsOf[4]? = some ((8, .arraylength, 0, 0, 0, 0, 0, 0, []) : xm_I) := rfl
theorem r_X0_secondsOf_5 : co_X0_secondsOf[5]? = some ((9, .if_icmp .lt 5, 0, 0, 8, 0, 0, 0, []) : xm_I) := rfl
theorem r_X0_secondsOf_6 : co_X0_secondsOf[6]? = some ((12, .iconst 0, 0, 0, 0, 0, 0, 0, []) : xm_I) := rfl
theorem r_X0_secondsOf_7 : co_X0_secondsOf[7]? = some ((13, .ireturn, 0, 0, 0, 0, 0, 0, []) : xm_I) := rfl
theorem r_X0_secondsOf_8 : co_X0_secondsOf[8]? = some ((14, .aload_n 0, 0, 0, 0, 0, 0, 0, []) : xm_I) := rfl
theorem r_X0_secondsOf_9 : co_X0_secondsOf[9]? = some ((15, .getfield 18, 250, 0, 13, 2, 0, 0, []) : xm_I) := rfl
theorem r_X0_secondsOf_10 : co_X0_secondsOf[10]? = some ((18, .getstatic 119, 774, 0, 2, 0, 0, 0, []) : xm_I) := rfl
theorem r_X0_secondsOf_11 : co_X0_secondsOf[11]? = some ((21, .iload_n 1, 0, 0, 0, 0, 0, 0, []) : xm_I) := rfl
theorem r_X0_secondsOf_12 : co_X0_secondsOf[12]? = some ((22, .iaload, 0, 0, 0, 0, 0, 0, []) : xm_I) := rfl
theorem r_X0_secondsOf_13 : co_X0_secondsOf[13]? = some ((23, .iaload, 0, 0, 0, 0, 0, 0, []) : xm_I) := rfl
theorem r_X0_secondsOf_14 : co_X0_secondsOf[14]? = some ((24, .ireturn, 0, 0, 0, 0, 0, 0, []) : xm_I) := rfl
theorem p_X0_secondsOf_0_0 {X : xm_X} {P : List xm_M} {d : Nat} {h : xm_H} {l0 : Nat} {l1 : Int32} (q0 : l1 < (0 : Int32)) : xm_E X P d co_X0_secondsOf 0 [some (.ref l0), some (.int l1)] [] h (some (.int (0 : Int32))) h := by
  refine xm_E_s r_X0_secondsOf_0 rfl rfl ?_
  refine xm_E_s r_X0_secondsOf_1 rfl rfl ?_
  refine xm_E_t q0 ?_
  refine xm_E_s r_X0_secondsOf_6 rfl rfl ?_
  exact xm_E_iret r_X0_secondsOf_7 rfl rfl
theorem p_X0_secondsOf_0_1 {X : xm_X} {P : List xm_M} {d : Nat} {h : xm_H} {l0 : Nat} {l1 : Int32} {n0 : Nat} {f0 : Nat → Int32} {v1 : Nat} {n2 : Nat} (q0 : ¬ (l1 < (0 : Int32))) (q1 : X.2.2.2 2 = some (.ref 901)) (q2 : X.1[901]? = none) (q3 : X.2.1 901 = some (0, n0, f0)) (q4 : l1 < Int32.ofNat n0) (q5 : X.1[l0]? = some (.inr 0)) (q6 : h.2.2 l0 13 = some v1) (q7 : ¬ (l1 < 0 ∨ n0 ≤ l1.toNatClampNeg)) (q8 : X.1[v1]? = some (.inl (0, n2))) (q9 : ¬ (f0 l1.toNatClampNeg < 0 ∨ n2 ≤ (f0 l1.toNatClampNeg).toNatClampNeg)) : xm_E X P d co_X0_secondsOf 0 [some (.ref l0), some (.int l1)] [] h (some (.int (h.1 v1 ((f0 l1.toNatClampNeg).toNatClampNeg)))) h := by
  refine xm_E_s r_X0_secondsOf_0 rfl rfl ?_
  refine xm_E_s r_X0_secondsOf_1 rfl rfl ?_
  refine xm_E_f q0 ?_
  refine xm_E_s r_X0_secondsOf_2 rfl rfl ?_
  refine xm_E_s r_X0_secondsOf_3 rfl (by simp only [xm_step, xm_in, xm_b, q1]; rfl) ?_
  refine xm_E_s r_X0_secondsOf_4 rfl (xm_T_alenx rfl q2 q3) ?_
  refine xm_E_s r_X0_secondsOf_5 rfl rfl ?_
  refine xm_E_t q4 ?_
  refine xm_E_s r_X0_secondsOf_8 rfl rfl ?_
  refine xm_E_s r_X0_secondsOf_9 rfl (xm_T_gr rfl q5 rfl rfl q6) ?_
  refine xm_E_s r_X0_secondsOf_10 rfl (by simp only [xm_step, xm_in, xm_b, q1]; rfl) ?_
  refine xm_E_s r_X0_secondsOf_11 rfl rfl ?_
  refine xm_E_s r_X0_secondsOf_12 rfl (xm_T_ialx rfl q2 q3 (by decide) q7) ?_
  refine xm_E_s r_X0_secondsOf_13 rfl (xm_T_iald rfl q8 (by decide) q9) ?_
  exact xm_E_iret r_X0_secondsOf_14 rfl rfl
theorem p_X0_secondsOf_0_2 {X : xm_X} {P : List xm_M} {d : Nat} {h : xm_H} {l0 : Nat} {l1 : Int32} {n0 : Nat} {f0 : Nat → Int32} (q0 : ¬ (l1 < (0 : Int32))) (q1 : X.2.2.2 2 = some (.ref 901)) (q2 : X.1[901]? = none) (q3 : X.2.1 901 = some (0, n0, f0)) (q4 : ¬ (l1 < Int32.ofNat n0)) : xm_E X P d co_X0_secondsOf 0 [some (.ref l0), some (.int l1)] [] h (some (.int (0 : Int32))) h := by
  refine xm_E_s r_X0_secondsOf_0 rfl rfl ?_
  refine xm_E_s r_X0_secondsOf_1 rfl rfl ?_
  refine xm_E_f q0 ?_
  refine xm_E_s r_X0_secondsOf_2 rfl rfl ?_
  refine xm_E_s r_X0_secondsOf_3 rfl (by simp only [xm_step, xm_in, xm_b, q1]; rfl) ?_
  refine xm_E_s r_X0_secondsOf_4 rfl (xm_T_alenx rfl q2 q3) ?_
  refine xm_E_s r_X0_secondsOf_5 rfl rfl ?_
  refine xm_E_f q4 ?_
  refine xm_E_s r_X0_secondsOf_6 rfl rfl ?_
  exact xm_E_iret r_X0_secondsOf_7 rfl rfl
theorem r_X0_actOf_0 : co_X0_actOf[0]? = some ((0, .aload_n 0, 0, 0, 0, 0, 0, 0, []) : xm_I) := rfl
theorem r_X0_actOf_1 : co_X0_actOf[1]? = some ((1, .iload_n 1, 0, 0, 0, 0, 0, 0, []) : xm_I) := rfl
theorem r_X0_actOf_2 : co_X0_actOf[2]? = some ((2, .invokevirtual 122, 789, 58, 2, 0, 0, 0, []) : xm_I) := rfl
theorem r_X0_actOf_3 : co_X0_actOf[3]? = some ((5, .aload_n 0, 0, 0, 0, 0, 0, 0, []) : xm_I) := rfl
theorem r_X0_actOf_4 : co_X0_actOf[4]? = some ((6, .iload_n 1, 0, 0, 0, 0, 0, 0, []) : xm_I) := rfl
theorem r_X0_actOf_5 : co_X0_actOf[5]? = some ((7, .invokevirtual 125, 793, 59, 2, 0, 0, 0, []) : xm_I) := rfl
theorem r_X0_actOf_6 : co_X0_actOf[6]? = some ((10, .invokestatic 128, 797, 60, 2, 0, 0, 0, []) : xm_I) := rfl
theorem r_X0_actOf_7 : co_X0_actOf[7]? = some ((13, .ireturn, 0, 0, 0, 0, 0, 0, []) : xm_I) := rfl
theorem p_X0_actOf_0_0 {X : xm_X} {P : List xm_M} {d : Nat} {h : xm_H} {l0 : Nat} {l1 : Int32} {h0 : xm_H} {r0 : Int32} {h1 : xm_H} {r1 : Int32} {h2 : xm_H} {r2 : Int32} (q0 : xm_V X P d 58 [.ref l0, .int l1] h (some (.int r0)) h0) (q1 : X.1[l0]? = some (.inr 0)) (q2 : xm_V X P d 59 [.ref l0, .int l1] h0 (some (.int r1)) h1) (q3 : xm_V X P d 60 [.int r0, .int r1] h1 (some (.int r2)) h2) : xm_E X P d co_X0_actOf 0 [some (.ref l0), some (.int l1)] [] h (some (.int r2)) h2 := by
  refine xm_E_s r_X0_actOf_0 rfl rfl ?_
  refine xm_E_s r_X0_actOf_1 rfl rfl ?_
  refine xm_E_cv [.ref l0, .int l1] [] r_X0_actOf_2 rfl rfl (Nat.le_of_ble_eq_true rfl) (xm_rc q1 (by decide)) rfl q0 ?_
  refine xm_E_s r_X0_actOf_3 rfl rfl ?_
  refine xm_E_s r_X0_actOf_4 rfl rfl ?_
  refine xm_E_cv [.ref l0, .int l1] [.int r0] r_X0_actOf_5 rfl rfl (Nat.le_of_ble_eq_true rfl) (xm_rc q1 (by decide)) rfl q2 ?_
  refine xm_E_cs [.int r0, .int r1] [] r_X0_actOf_6 rfl rfl rfl (Nat.le_of_ble_eq_true rfl) rfl q3 ?_
  exact xm_E_iret r_X0_actOf_7 rfl rfl
theorem r_X0_herAct_0 : co_X0_herAct[0]? = some ((0, .iload_n 1, 0, 0, 0, 0, 0, 0, []) : xm_I) := rfl
theorem r_X0_herAct_1 : co_X0_herAct[1]? = some ((1, .ifCond .lt 21, 0, 0, 12, 0, 0, 0, []) : xm_I) := rfl
theorem r_X0_herAct_2 : co_X0_herAct[2]? = some ((4, .iload_n 1, 0, 0, 0, 0, 0, 0, []) : xm_I) := rfl
theorem r_X0_herAct_3 : co_X0_herAct[3]? = some ((5, .aload_n 0, 0, 0, 0, 0, 0, 0, []) : xm_I) := rfl
theorem r_X0_herAct_4 : co_X0_herAct[4]? = some ((6, .getfield 22, 252, 0, 14, 2, 0, 0, []) : xm_I) := rfl
theorem r_X0_herAct_5 : co_X0_herAct[5]? = some ((9, .arraylength, 0, 0, 0, 0, 0, 0, []) : xm_I) := rfl
theorem r_X0_herAct_6 : co_X0_herAct[6]? = some ((10, .if_icmp .ge 12, 0, 0, 12, 0, 0, 0, []) : xm_I) := rfl
theorem r_X0_herAct_7 : co_X0_herAct[7]? = some ((13, .aload_n 0, 0, 0, 0, 0, 0, 0, []) : xm_I) := rfl
theorem r_X0_herAct_8 : co_X0_herAct[8]? = some ((14, .getfield 22, 252, 0, 14, 2, 0, 0, []) : xm_I) := rfl
theorem r_X0_herAct_9 : co_X0_herAct[9]? = some ((17, .iload_n 1, 0, 0, 0, 0, 0, 0, []) : xm_I) := rfl
theorem r_X0_herAct_10 : co_X0_herAct[10]? = some ((18, .iaload, 0, 0, 0, 0, 0, 0, []) : xm_I) := rfl
theorem r_X0_herAct_11 : co_X0_herAct[11]? = some ((19, .goto 4, 0, 0, 13, 0, 0, 0, []) : xm_I) := rfl
theorem r_X0_herAct_12 : co_X0_herAct[12]? = some ((22, .iconst (-1), 0, 0, 0, 0, (-1), 0, []) : xm_I) := rfl
theorem r_X0_herAct_13 : co_X0_herAct[13]? = some ((23, .ireturn, 0, 0, 0, 0, 0, 0, []) : xm_I) := rfl
theorem p_X0_herAct_0_0 {X : xm_X} {P : List xm_M} {d : Nat} {h : xm_H} {l0 : Nat} {l1 : Int32} (q0 : l1 < (0 : Int32)) : xm_E X P d co_X0_herAct 0 [some (.ref l0), some (.int l1)] [] h (some (.int (-1 : Int32))) h := by
  refine xm_E_s r_X0_herAct_0 rfl rfl ?_
  refine xm_E_s r_X0_herAct_1 rfl rfl ?_
  refine xm_E_t q0 ?_
  refine xm_E_s r_X0_herAct_12 rfl rfl ?_
  exact xm_E_iret r_X0_herAct_13 rfl rfl
theorem p_X0_herAct_0_1 {X : xm_X} {P : List xm_M} {d : Nat} {h : xm_H} {l0 : Nat} {l1 : Int32} {v0 : Nat} {n1 : Nat} (q0 : ¬ (l1 < (0 : Int32))) (q1 : X.1[l0]? = some (.inr 0)) (q2 : h.2.2 l0 14 = some v0) (q3 : X.1[v0]? = some (.inl (0, n1))) (q4 : Int32.ofNat n1 ≤ l1) : xm_E X P d co_X0_herAct 0 [some (.ref l0), some (.int l1)] [] h (some (.int (-1 : Int32))) h := by
  refine xm_E_s r_X0_herAct_0 rfl rfl ?_
  refine xm_E_s r_X0_herAct_1 rfl rfl ?_
  refine xm_E_f q0 ?_
  refine xm_E_s r_X0_herAct_2 rfl rfl ?_
  refine xm_E_s r_X0_herAct_3 rfl rfl ?_
  refine xm_E_s r_X0_herAct_4 rfl (xm_T_gr rfl q1 rfl rfl q2) ?_
  refine xm_E_s r_X0_herAct_5 rfl (xm_T_alen rfl q3 (by decide)) ?_
  refine xm_E_s r_X0_herAct_6 rfl rfl ?_
  refine xm_E_t q4 ?_
  refine xm_E_s r_X0_herAct_12 rfl rfl ?_
  exact xm_E_iret r_X0_herAct_13 rfl rfl
theorem p_X0_herAct_0_2 {X : xm_X} {P : List xm_M} {d : Nat} {h : xm_H} {l0 : Nat} {l1 : Int32} {v0 : Nat} {n1 : Nat} (q0 : ¬ (l1 < (0 : Int32))) (q1 : X.1[l0]? = some (.inr 0)) (q2 : h.2.2 l0 14 = some v0) (q3 : X.1[v0]? = some (.inl (0, n1))) (q4 : ¬ (Int32.ofNat n1 ≤ l1)) (q5 : ¬ (l1 < 0 ∨ n1 ≤ l1.toNatClampNeg)) : xm_E X P d co_X0_herAct 0 [some (.ref l0), some (.int l1)] [] h (some (.int (h.1 v0 l1.toNatClampNeg))) h := by
  refine xm_E_s r_X0_herAct_0 rfl rfl ?_
  refine xm_E_s r_X0_herAct_1 rfl rfl ?_
  refine xm_E_f q0 ?_
  refine xm_E_s r_X0_herAct_2 rfl rfl ?_
  refine xm_E_s r_X0_herAct_3 rfl rfl ?_
  refine xm_E_s r_X0_herAct_4 rfl (xm_T_gr rfl q1 rfl rfl q2) ?_
  refine xm_E_s r_X0_herAct_5 rfl (xm_T_alen rfl q3 (by decide)) ?_
  refine xm_E_s r_X0_herAct_6 rfl rfl ?_
  refine xm_E_f q4 ?_
  refine xm_E_s r_X0_herAct_7 rfl rfl ?_
  refine xm_E_s r_X0_herAct_8 rfl (xm_T_gr rfl q1 rfl rfl q2) ?_
  refine xm_E_s r_X0_herAct_9 rfl rfl ?_
  refine xm_E_s r_X0_herAct_10 rfl (xm_T_iald rfl q3 (by decide) q5) ?_
  refine xm_E_s r_X0_herAct_11 rfl rfl ?_
  exact xm_E_iret r_X0_herAct_13 rfl rfl
theorem r_X0_hisAct_0 : co_X0_hisAct[0]? = some ((0, .iload_n 1, 0, 0, 0, 0, 0, 0, []) : xm_I) := rfl
theorem r_X0_hisAct_1 : co_X0_hisAct[1]? = some ((1, .ifCond .lt 21, 0, 0, 12, 0, 0, 0, []) : xm_I) := rfl
theorem r_X0_hisAct_2 : co_X0_hisAct[2]? = some ((4, .iload_n 1, 0, 0, 0, 0, 0, 0, []) : xm_I) := rfl
theorem r_X0_hisAct_3 : co_X0_hisAct[3]? = some ((5, .aload_n 0, 0, 0, 0, 0, 0, 0, []) : xm_I) := rfl
theorem r_X0_hisAct_4 : co_X0_hisAct[4]? = some ((6, .getfield 25, 254, 0, 15, 2, 0, 0, []) : xm_I) := rfl
theorem r_X0_hisAct_5 : co_X0_hisAct[5]? = some ((9, .arraylength, 0, 0, 0, 0, 0, 0, []) : xm_I) := rfl
theorem r_X0_hisAct_6 : co_X0_hisAct[6]? = some ((10, .if_icmp .ge 12, 0, 0, 12, 0, 0, 0, []) : xm_I) := rfl
theorem r_X0_hisAct_7 : co_X0_hisAct[7]? = some ((13, .aload_n 0, 0, 0, 0, 0, 0, 0, []) : xm_I) := rfl
theorem r_X0_hisAct_8 : co_X0_hisAct[8]? = some ((14, .getfield 25, 254, 0, 15, 2, 0, 0, []) : xm_I) := rfl
theorem r_X0_hisAct_9 : co_X0_hisAct[9]? = some ((17, .iload_n 1, 0, 0, 0, 0, 0, 0, []) : xm_I) := rfl
theorem r_X0_hisAct_10 : co_X0_hisAct[10]? = some ((18, .iaload, 0, 0, 0, 0, 0, 0, []) : xm_I) := rfl
theorem r_X0_hisAct_11 : co_X0_hisAct[11]? = some ((19, .goto 4, 0, 0, 13, 0, 0, 0, []) : xm_I) := rfl
theorem r_X0_hisAct_12 : co_X0_hisAct[12]? = some ((22, .iconst (-1), 0, 0, 0, 0, (-1), 0, []) : xm_I) := rfl
theorem r_X0_hisAct_13 : co_X0_hisAct[13]? = some ((23, .ireturn, 0, 0, 0, 0, 0, 0, []) : xm_I) := rfl
theorem p_X0_hisAct_0_0 {X : xm_X} {P : List xm_M} {d : Nat} {h : xm_H} {l0 : Nat} {l1 : Int32} (q0 : l1 < (0 : Int32)) : xm_E X P d co_X0_hisAct 0 [some (.ref l0), some (.int l1)] [] h (some (.int (-1 : Int32))) h := by
  refine xm_E_s r_X0_hisAct_0 rfl rfl ?_
  refine xm_E_s r_X0_hisAct_1 rfl rfl ?_
  refine xm_E_t q0 ?_
  refine xm_E_s r_X0_hisAct_12 rfl rfl ?_
  exact xm_E_iret r_X0_hisAct_13 rfl rfl
theorem p_X0_hisAct_0_1 {X : xm_X} {P : List xm_M} {d : Nat} {h : xm_H} {l0 : Nat} {l1 : Int32} {v0 : Nat} {n1 : Nat} (q0 : ¬ (l1 < (0 : Int32))) (q1 : X.1[l0]? = some (.inr 0)) (q2 : h.2.2 l0 15 = some v0) (q3 : X.1[v0]? = some (.inl (0, n1))) (q4 : Int32.ofNat n1 ≤ l1) : xm_E X P d co_X0_hisAct 0 [some (.ref l0), some (.int l1)] [] h (some (.int (-1 : Int32))) h := by
  refine xm_E_s r_X0_hisAct_0 rfl rfl ?_
  refine xm_E_s r_X0_hisAct_1 rfl rfl ?_
  refine xm_E_f q0 ?_
  refine xm_E_s r_X0_hisAct_2 rfl rfl ?_
  refine xm_E_s r_X0_hisAct_3 rfl rfl ?_
  refine xm_E_s r_X0_hisAct_4 rfl (xm_T_gr rfl q1 rfl rfl q2) ?_
  refine xm_E_s r_X0_hisAct_5 rfl (xm_T_alen rfl q3 (by decide)) ?_
  refine xm_E_s r_X0_hisAct_6 rfl rfl ?_
  refine xm_E_t q4 ?_
  refine xm_E_s r_X0_hisAct_12 rfl rfl ?_
  exact xm_E_iret r_X0_hisAct_13 rfl rfl
theorem p_X0_hisAct_0_2 {X : xm_X} {P : List xm_M} {d : Nat} {h : xm_H} {l0 : Nat} {l1 : Int32} {v0 : Nat} {n1 : Nat} (q0 : ¬ (l1 < (0 : Int32))) (q1 : X.1[l0]? = some (.inr 0)) (q2 : h.2.2 l0 15 = some v0) (q3 : X.1[v0]? = some (.inl (0, n1))) (q4 : ¬ (Int32.ofNat n1 ≤ l1)) (q5 : ¬ (l1 < 0 ∨ n1 ≤ l1.toNatClampNeg)) : xm_E X P d co_X0_hisAct 0 [some (.ref l0), some (.int l1)] [] h (some (.int (h.1 v0 l1.toNatClampNeg))) h := by
  refine xm_E_s r_X0_hisAct_0 rfl rfl ?_
  refine xm_E_s r_X0_hisAct_1 rfl rfl ?_
  refine xm_E_f q0 ?_
  refine xm_E_s r_X0_hisAct_2 rfl rfl ?_
  refine xm_E_s r_X0_hisAct_3 rfl rfl ?_
  refine xm_E_s r_X0_hisAct_4 rfl (xm_T_gr rfl q1 rfl rfl q2) ?_
  refine xm_E_s r_X0_hisAct_5 rfl (xm_T_alen rfl q3 (by decide)) ?_
  refine xm_E_s r_X0_hisAct_6 rfl rfl ?_
  refine xm_E_f q4 ?_
  refine xm_E_s r_X0_hisAct_7 rfl rfl ?_
  refine xm_E_s r_X0_hisAct_8 rfl (xm_T_gr rfl q1 rfl rfl q2) ?_
  refine xm_E_s r_X0_hisAct_9 rfl rfl ?_
  refine xm_E_s r_X0_hisAct_10 rfl (xm_T_iald rfl q3 (by decide) q5) ?_
  refine xm_E_s r_X0_hisAct_11 rfl rfl ?_
  exact xm_E_iret r_X0_hisAct_13 rfl rfl
theorem r_X0_actOfBoth_0 : co_X0_actOfBoth[0]? = some ((0, .iload_n 0, 0, 0, 0, 0, 0, 0, []) : xm_I) := rfl
theorem r_X0_actOfBoth_1 : co_X0_actOfBoth[1]? = some ((1, .ifCond .lt 17, 0, 0, 10, 0, 0, 0, []) : xm_I) := rfl
theorem r_X0_actOfBoth_2 : co_X0_actOfBoth[2]? = some ((4, .iload_n 0, 0, 0, 0, 0, 0, 0, []) : xm_I) := rfl
theorem r_X0_actOfBoth_3 : co_X0_actOfBoth[3]? = some ((5, .iconst 4, 0, 0, 0, 0, 4, 0, []) : xm_I) := rfl
theorem r_X0_actOfBoth_4 : co_X0_actOfBoth[4]? = some ((6, .if_icmp .ge 12, 0, 0, 10, 0, 0, 0, []) : xm_I) := rfl
theorem r_X0_actOfBoth_5 : co_X0_actOfBoth[5]? = some ((9, .iload_n 1, 0, 0, 0, 0, 0, 0, []) : xm_I) := rfl
theorem r_X0_actOfBoth_6 : co_X0_actOfBoth[6]? = some ((10, .ifCond .lt 8, 0, 0, 10, 0, 0, 0, []) : xm_I) := rfl
theorem r_X0_actOfBoth_7 : co_X0_actOfBoth[7]? = some ((13, .iload_n 1, 0, 0, 0, 0, 0, 0, []) : xm_I) := rfl
theorem r_X0_actOfBoth_8 : co_X0_actOfBoth[8]? = some ((14, .iconst 4, 0, 0, 0, 0, 4, 0, []) : xm_I) := rfl
theorem r_X0_actOfBoth_9 : co_X0_actOfBoth[9]? = some ((15, .if_icmp .lt 6, 0, 0, 12, 0, 0, 0, []) : xm_I) := rfl
theorem r_X0_actOfBoth_10 : co_X0_actOfBoth[10]? = some ((18, .bipush 12, 0, 0, 0, 0, 12, 0, []) : xm_I) := rfl
theorem r_X0_actOfBoth_11 : co_X0_actOfBoth[11]? = some ((20, .ireturn, 0, 0, 0, 0, 0, 0, []) : xm_I) := rfl
theorem r_X0_actOfBoth_12 : co_X0_actOfBoth[12]? = some ((21, .getstatic 131, 800, 0, 1, 0, 0, 0, []) : xm_I) := rfl
theorem r_X0_actOfBoth_13 : co_X0_actOfBoth[13]? = some ((24, .iload_n 0, 0, 0, 0, 0, 0, 0, []) : xm_I) := rfl
theorem r_X0_actOfBoth_14 : co_X0_actOfBoth[14]? = some ((25, .iconst 4, 0, 0, 0, 0, 4, 0, []) : xm_I) := rfl
theorem r_X0_actOfBoth_15 : co_X0_actOfBoth[15]? = some ((26, .imul, 0, 0, 0, 0, 0, 0, []) : xm_I) := rfl
theorem r_X0_actOfBoth_16 : co_X0_actOfBoth[16]? = some ((27, .iload_n 1, 0, 0, 0, 0, 0, 0, []) : xm_I) := rfl
theorem r_X0_actOfBoth_17 : co_X0_actOfBoth[17]? = some ((28, .iadd, 0, 0, 0, 0, 0, 0, []) : xm_I) := rfl
theorem r_X0_actOfBoth_18 : co_X0_actOfBoth[18]? = some ((29, .iaload, 0, 0, 0, 0, 0, 0, []) : xm_I) := rfl
theorem r_X0_actOfBoth_19 : co_X0_actOfBoth[19]? = some ((30, .ireturn, 0, 0, 0, 0, 0, 0, []) : xm_I) := rfl
theorem p_X0_actOfBoth_0_0 {X : xm_X} {P : List xm_M} {d : Nat} {h : xm_H} {l0 : Int32} {l1 : Int32} (q0 : l0 < (0 : Int32)) : xm_E X P d co_X0_actOfBoth 0 [some (.int l0), some (.int l1)] [] h (some (.int (12 : Int32))) h := by
  refine xm_E_s r_X0_actOfBoth_0 rfl rfl ?_
  refine xm_E_s r_X0_actOfBoth_1 rfl rfl ?_
  refine xm_E_t q0 ?_
  refine xm_E_s r_X0_actOfBoth_10 rfl rfl ?_
  exact xm_E_iret r_X0_actOfBoth_11 rfl rfl
theorem p_X0_actOfBoth_0_1 {X : xm_X} {P : List xm_M} {d : Nat} {h : xm_H} {l0 : Int32} {l1 : Int32} (q0 : ¬ (l0 < (0 : Int32))) (q1 : (4 : Int32) ≤ l0) : xm_E X P d co_X0_actOfBoth 0 [some (.int l0), some (.int l1)] [] h (some (.int (12 : Int32))) h := by
  refine xm_E_s r_X0_actOfBoth_0 rfl rfl ?_
  refine xm_E_s r_X0_actOfBoth_1 rfl rfl ?_
  refine xm_E_f q0 ?_
  refine xm_E_s r_X0_actOfBoth_2 rfl rfl ?_
  refine xm_E_s r_X0_actOfBoth_3 rfl rfl ?_
  refine xm_E_s r_X0_actOfBoth_4 rfl rfl ?_
  refine xm_E_t q1 ?_
  refine xm_E_s r_X0_actOfBoth_10 rfl rfl ?_
  exact xm_E_iret r_X0_actOfBoth_11 rfl rfl
theorem p_X0_actOfBoth_0_2 {X : xm_X} {P : List xm_M} {d : Nat} {h : xm_H} {l0 : Int32} {l1 : Int32} (q0 : ¬ (l0 < (0 : Int32))) (q1 : ¬ ((4 : Int32) ≤ l0)) (q2 : l1 < (0 : Int32)) : xm_E X P d co_X0_actOfBoth 0 [some (.int l0), some (.int l1)] [] h (some (.int (12 : Int32))) h := by
  refine xm_E_s r_X0_actOfBoth_0 rfl rfl ?_
  refine xm_E_s r_X0_actOfBoth_1 rfl rfl ?_
  refine xm_E_f q0 ?_
  refine xm_E_s r_X0_actOfBoth_2 rfl rfl ?_
  refine xm_E_s r_X0_actOfBoth_3 rfl rfl ?_
  refine xm_E_s r_X0_actOfBoth_4 rfl rfl ?_
  refine xm_E_f q1 ?_
  refine xm_E_s r_X0_actOfBoth_5 rfl rfl ?_
  refine xm_E_s r_X0_actOfBoth_6 rfl rfl ?_
  refine xm_E_t q2 ?_
  refine xm_E_s r_X0_actOfBoth_10 rfl rfl ?_
  exact xm_E_iret r_X0_actOfBoth_11 rfl rfl
theorem p_X0_actOfBoth_0_3 {X : xm_X} {P : List xm_M} {d : Nat} {h : xm_H} {l0 : Int32} {l1 : Int32} {n0 : Nat} {f0 : Nat → Int32} (q0 : ¬ (l0 < (0 : Int32))) (q1 : ¬ ((4 : Int32) ≤ l0)) (q2 : ¬ (l1 < (0 : Int32))) (q3 : l1 < (4 : Int32)) (q4 : X.2.2.2 1 = some (.ref 900)) (q5 : X.1[900]? = none) (q6 : X.2.1 900 = some (0, n0, f0)) (q7 : ¬ ((l0 * (4 : Int32)) + l1 < 0 ∨ n0 ≤ ((l0 * (4 : Int32)) + l1).toNatClampNeg)) : xm_E X P d co_X0_actOfBoth 0 [some (.int l0), some (.int l1)] [] h (some (.int (f0 (((l0 * (4 : Int32)) + l1).toNatClampNeg)))) h := by
  refine xm_E_s r_X0_actOfBoth_0 rfl rfl ?_
  refine xm_E_s r_X0_actOfBoth_1 rfl rfl ?_
  refine xm_E_f q0 ?_
  refine xm_E_s r_X0_actOfBoth_2 rfl rfl ?_
  refine xm_E_s r_X0_actOfBoth_3 rfl rfl ?_
  refine xm_E_s r_X0_actOfBoth_4 rfl rfl ?_
  refine xm_E_f q1 ?_
  refine xm_E_s r_X0_actOfBoth_5 rfl rfl ?_
  refine xm_E_s r_X0_actOfBoth_6 rfl rfl ?_
  refine xm_E_f q2 ?_
  refine xm_E_s r_X0_actOfBoth_7 rfl rfl ?_
  refine xm_E_s r_X0_actOfBoth_8 rfl rfl ?_
  refine xm_E_s r_X0_actOfBoth_9 rfl rfl ?_
  refine xm_E_t q3 ?_
  refine xm_E_s r_X0_actOfBoth_12 rfl (by simp only [xm_step, xm_in, xm_b, q4]; rfl) ?_
  refine xm_E_s r_X0_actOfBoth_13 rfl rfl ?_
  refine xm_E_s r_X0_actOfBoth_14 rfl rfl ?_
  refine xm_E_s r_X0_actOfBoth_15 rfl rfl ?_
  refine xm_E_s r_X0_actOfBoth_16 rfl rfl ?_
  refine xm_E_s r_X0_actOfBoth_17 rfl rfl ?_
  refine xm_E_s r_X0_actOfBoth_18 rfl (xm_T_ialx rfl q5 q6 (by decide) q7) ?_
  exact xm_E_iret r_X0_actOfBoth_19 rfl rfl
theorem p_X0_actOfBoth_0_4 {X : xm_X} {P : List xm_M} {d : Nat} {h : xm_H} {l0 : Int32} {l1 : Int32} (q0 : ¬ (l0 < (0 : Int32))) (q1 : ¬ ((4 : Int32) ≤ l0)) (q2 : ¬ (l1 < (0 : Int32))) (q3 : ¬ (l1 < (4 : Int32))) : xm_E X P d co_X0_actOfBoth 0 [some (.int l0), some (.int l1)] [] h (some (.int (12 : Int32))) h := by
  refine xm_E_s r_X0_actOfBoth_0 rfl rfl ?_
  refine xm_E_s r_X0_actOfBoth_1 rfl rfl ?_
  refine xm_E_f q0 ?_
  refine xm_E_s r_X0_actOfBoth_2 rfl rfl ?_
  refine xm_E_s r_X0_actOfBoth_3 rfl rfl ?_
  refine xm_E_s r_X0_actOfBoth_4 rfl rfl ?_
  refine xm_E_f q1 ?_
  refine xm_E_s r_X0_actOfBoth_5 rfl rfl ?_
  refine xm_E_s r_X0_actOfBoth_6 rfl rfl ?_
  refine xm_E_f q2 ?_
  refine xm_E_s r_X0_actOfBoth_7 rfl rfl ?_
  refine xm_E_s r_X0_actOfBoth_8 rfl rfl ?_
  refine xm_E_s r_X0_actOfBoth_9 rfl rfl ?_
  refine xm_E_f q3 ?_
  refine xm_E_s r_X0_actOfBoth_10 rfl rfl ?_
  exact xm_E_iret r_X0_actOfBoth_11 rfl rfl
theorem r_X9_takeBackTo_0 : co_X9_takeBackTo[0]? = some ((0, .aload_n 0, 0, 0, 0, 0, 0, 0, []) : xm_I) := rfl
theorem r_X9_takeBackTo_1 : co_X9_takeBackTo[1]? = some ((1, .invokevirtual 56, 810, 31, 1, 8, 0, 0, []) : xm_I) := rfl
theorem r_X9_takeBackTo_2 : co_X9_takeBackTo[2]? = some ((4, .iconst 0, 0, 0, 0, 0, 0, 0, []) : xm_I) := rfl
theorem r_X9_takeBackTo_3 : co_X9_takeBackTo[3]? = some ((5, .istore_n 2, 0, 0, 0, 0, 0, 0, []) : xm_I) := rfl
theorem r_X9_takeBackTo_4 : co_X9_takeBackTo[4]? = some ((6, .iload_n 2, 0, 0, 0, 0, 0, 0, []) : xm_I) := rfl
theorem r_X9_takeBackTo_5 : co_X9_takeBackTo[5]? = some ((7, .iload_n 1, 0, 0, 0, 0, 0, 0, []) : xm_I) := rfl
theorem r_X9_takeBackTo_6 : co_X9_takeBackTo[6]? = some ((8, .if_icmp .ge 26, 0, 0, 19, 0, 0, 0, []) : xm_I) := rfl
theorem r_X9_takeBackTo_7 : co_X9_takeBackTo[7]? = some ((11, .iload_n 2, 0, 0, 0, 0, 0, 0, []) : xm_I) := rfl
theorem r_X9_takeBackTo_8 : co_X9_takeBackTo[8]? = some ((12, .bipush 60, 0, 0, 0, 0, 60, 0, []) : xm_I) := rfl
theorem r_X9_takeBackTo_9 : co_X9_takeBackTo[9]? = some ((14, .if_icmp .ge 20, 0, 0, 19, 0, 0, 0, []) : xm_I) := rfl
theorem r_X9_takeBackTo_10 : co_X9_takeBackTo[10]? = some ((17, .aload_n 0, 0, 0, 0, 0, 0, 0, []) : xm_I) := rfl
theorem r_X9_takeBackTo_11 : co_X9_takeBackTo[11]? = some ((18, .aload_n 0, 0, 0, 0, 0, 0, 0, []) : xm_I) := rfl
theorem r_X9_takeBackTo_12 : co_X9_takeBackTo[12]? = some ((19, .getfield 18, 306, 8, 1, 2, 0, 0, []) : xm_I) := rfl
theorem r_X9_takeBackTo_13 : co_X9_takeBackTo[13]? = some ((22, .iload_n 2, 0, 0, 0, 0, 0, 0, []) : xm_I) := rfl
theorem r_X9_takeBackTo_14 : co_X9_takeBackTo[14]? = some ((23, .iaload, 0, 0, 0, 0, 0, 0, []) : xm_I) := rfl
theorem r_X9_takeBackTo_15 : co_X9_takeBackTo[15]? = some ((24, .invokevirtual 59, 811, 51, 2, 8, 0, 0, []) : xm_I) := rfl
theorem r_X9_takeBackTo_16 : co_X9_takeBackTo[16]? = some ((27, .pop, 0, 0, 0, 0, 0, 0, []) : xm_I) := rfl
theorem r_X9_takeBackTo_17 : co_X9_takeBackTo[17]? = some ((28, .iinc 2 1, 0, 0, 0, 0, 1, 0, []) : xm_I) := rfl
theorem r_X9_takeBackTo_18 : co_X9_takeBackTo[18]? = some ((31, .goto (-25), 0, 0, 4, 0, 0, 0, []) : xm_I) := rfl
theorem r_X9_takeBackTo_19 : co_X9_takeBackTo[19]? = some ((34, .return_, 0, 0, 0, 0, 0, 0, []) : xm_I) := rfl
theorem p_X9_takeBackTo_0_0 {X : xm_X} {P : List xm_M} {d : Nat} {h : xm_H} {l0 : Nat} {l1 : Int32} {h0 : xm_H} {ro : Option Value} {ho : xm_H} (q0 : xm_V X P d 31 [.ref l0] h none h0) (q1 : X.1[l0]? = some (.inr 8)) (K : xm_E X P d co_X9_takeBackTo 4 [some (.ref l0), some (.int l1), some (.int (0 : Int32))] [] h0 ro ho) : xm_E X P d co_X9_takeBackTo 0 [some (.ref l0), some (.int l1), none] [] h ro ho := by
  refine xm_E_s r_X9_takeBackTo_0 rfl rfl ?_
  refine xm_E_cv [.ref l0] [] r_X9_takeBackTo_1 rfl rfl (Nat.le_of_ble_eq_true rfl) (xm_rc q1 (by decide)) rfl q0 ?_
  refine xm_E_s r_X9_takeBackTo_2 rfl rfl ?_
  refine xm_E_s (ls1 := [some (.ref l0), some (.int l1), some (.int (0 : Int32))]) r_X9_takeBackTo_3 rfl rfl ?_
  exact K
theorem p_X9_takeBackTo_4_0 {X : xm_X} {P : List xm_M} {d : Nat} {h : xm_H} {l0 : Nat} {l1 : Int32} {l2 : Int32} (q0 : l1 ≤ l2) : xm_E X P d co_X9_takeBackTo 4 [some (.ref l0), some (.int l1), some (.int l2)] [] h none h := by
  refine xm_E_s r_X9_takeBackTo_4 rfl rfl ?_
  refine xm_E_s r_X9_takeBackTo_5 rfl rfl ?_
  refine xm_E_s r_X9_takeBackTo_6 rfl rfl ?_
  refine xm_E_t q0 ?_
  exact xm_E_ret r_X9_takeBackTo_19 rfl
theorem p_X9_takeBackTo_4_1 {X : xm_X} {P : List xm_M} {d : Nat} {h : xm_H} {l0 : Nat} {l1 : Int32} {l2 : Int32} (q0 : ¬ (l1 ≤ l2)) (q1 : (60 : Int32) ≤ l2) : xm_E X P d co_X9_takeBackTo 4 [some (.ref l0), some (.int l1), some (.int l2)] [] h none h := by
  refine xm_E_s r_X9_takeBackTo_4 rfl rfl ?_
  refine xm_E_s r_X9_takeBackTo_5 rfl rfl ?_
  refine xm_E_s r_X9_takeBackTo_6 rfl rfl ?_
  refine xm_E_f q0 ?_
  refine xm_E_s r_X9_takeBackTo_7 rfl rfl ?_
  refine xm_E_s r_X9_takeBackTo_8 rfl rfl ?_
  refine xm_E_s r_X9_takeBackTo_9 rfl rfl ?_
  refine xm_E_t q1 ?_
  exact xm_E_ret r_X9_takeBackTo_19 rfl
theorem p_X9_takeBackTo_4_2 {X : xm_X} {P : List xm_M} {d : Nat} {h : xm_H} {l0 : Nat} {l1 : Int32} {l2 : Int32} {v0 : Nat} {n1 : Nat} {h2 : xm_H} {r2 : Int32} {ro : Option Value} {ho : xm_H} (q0 : ¬ (l1 ≤ l2)) (q1 : ¬ ((60 : Int32) ≤ l2)) (q2 : X.1[l0]? = some (.inr 8)) (q3 : h.2.2 l0 1 = some v0) (q4 : X.1[v0]? = some (.inl (0, n1))) (q5 : ¬ (l2 < 0 ∨ n1 ≤ l2.toNatClampNeg)) (q6 : xm_V X P d 51 [.ref l0, .int (h.1 v0 l2.toNatClampNeg)] h (some (.int r2)) h2) (K : xm_E X P d co_X9_takeBackTo 4 [some (.ref l0), some (.int l1), some (.int (l2 + (1 : Int32)))] [] h2 ro ho) : xm_E X P d co_X9_takeBackTo 4 [some (.ref l0), some (.int l1), some (.int l2)] [] h ro ho := by
  refine xm_E_s r_X9_takeBackTo_4 rfl rfl ?_
  refine xm_E_s r_X9_takeBackTo_5 rfl rfl ?_
  refine xm_E_s r_X9_takeBackTo_6 rfl rfl ?_
  refine xm_E_f q0 ?_
  refine xm_E_s r_X9_takeBackTo_7 rfl rfl ?_
  refine xm_E_s r_X9_takeBackTo_8 rfl rfl ?_
  refine xm_E_s r_X9_takeBackTo_9 rfl rfl ?_
  refine xm_E_f q1 ?_
  refine xm_E_s r_X9_takeBackTo_10 rfl rfl ?_
  refine xm_E_s r_X9_takeBackTo_11 rfl rfl ?_
  refine xm_E_s r_X9_takeBackTo_12 rfl (xm_T_gr rfl q2 rfl rfl q3) ?_
  refine xm_E_s r_X9_takeBackTo_13 rfl rfl ?_
  refine xm_E_s r_X9_takeBackTo_14 rfl (xm_T_iald rfl q4 (by decide) q5) ?_
  refine xm_E_cv [.ref l0, .int (h.1 v0 l2.toNatClampNeg)] [] r_X9_takeBackTo_15 rfl rfl (Nat.le_of_ble_eq_true rfl) (xm_rc q2 (by decide)) rfl q6 ?_
  refine xm_E_s r_X9_takeBackTo_16 rfl rfl ?_
  refine xm_E_s (ls1 := [some (.ref l0), some (.int l1), some (.int (l2 + (1 : Int32)))]) r_X9_takeBackTo_17 rfl rfl ?_
  refine xm_E_s r_X9_takeBackTo_18 rfl rfl ?_
  exact K
theorem r_X9_doneAt_0 : co_X9_doneAt[0]? = some ((0, .iload_n 1, 0, 0, 0, 0, 0, 0, []) : xm_I) := rfl
theorem r_X9_doneAt_1 : co_X9_doneAt[1]? = some ((1, .ifCond .lt 26, 0, 0, 14, 0, 0, 0, []) : xm_I) := rfl
theorem r_X9_doneAt_2 : co_X9_doneAt[2]? = some ((4, .iload_n 1, 0, 0, 0, 0, 0, 0, []) : xm_I) := rfl
theorem r_X9_doneAt_3 : co_X9_doneAt[3]? = some ((5, .aload_n 0, 0, 0, 0, 0, 0, 0, []) : xm_I) := rfl
theorem r_X9_doneAt_4 : co_X9_doneAt[4]? = some ((6, .getfield 26, 307, 8, 2, 0, 0, 0, []) : xm_I) := rfl
theorem r_X9_doneAt_5 : co_X9_doneAt[5]? = some ((9, .if_icmp .ge 18, 0, 0, 14, 0, 0, 0, []) : xm_I) := rfl
theorem r_X9_doneAt_6 : co_X9_doneAt[6]? = some ((12, .iload_n 1, 0, 0, 0, 0, 0, 0, []) : xm_I) := rfl
theorem r_X9_doneAt_7 : co_X9_doneAt[7]? = some ((13, .bipush 60, 0, 0, 0, 0, 60, 0, []) : xm_I) := rfl
theorem r_X9_doneAt_8 : co_X9_doneAt[8]? = some ((15, .if_icmp .ge 12, 0, 0, 14, 0, 0, 0, []) : xm_I) := rfl
theorem r_X9_doneAt_9 : co_X9_doneAt[9]? = some ((18, .aload_n 0, 0, 0, 0, 0, 0, 0, []) : xm_I) := rfl
theorem r_X9_doneAt_10 : co_X9_doneAt[10]? = some ((19, .getfield 18, 306, 8, 1, 2, 0, 0, []) : xm_I) := rfl
theorem r_X9_doneAt_11 : co_X9_doneAt[11]? = some ((22, .iload_n 1, 0, 0, 0, 0, 0, 0, []) : xm_I) := rfl
theorem r_X9_doneAt_12 : co_X9_doneAt[12]? = some ((23, .iaload, 0, 0, 0, 0, 0, 0, []) : xm_I) := rfl
theorem r_X9_doneAt_13 : co_X9_doneAt[13]? = some ((24, .goto 4, 0, 0, 15, 0, 0, 0, []) : xm_I) := rfl
theorem r_X9_doneAt_14 : co_X9_doneAt[14]? = some ((27, .iconst (-1), 0, 0, 0, 0, (-1), 0, []) : xm_I) := rfl
theorem r_X9_doneAt_15 : co_X9_doneAt[15]? = some ((28, .ireturn, 0, 0, 0, 0, 0, 0, []) : xm_I) := rfl
theorem p_X9_doneAt_0_0 {X : xm_X} {P : List xm_M} {d : Nat} {h : xm_H} {l0 : Nat} {l1 : Int32} (q0 : l1 < (0 : Int32)) : xm_E X P d co_X9_doneAt 0 [some (.ref l0), some (.int l1)] [] h (some (.int (-1 : Int32))) h := by
  refine xm_E_s r_X9_doneAt_0 rfl rfl ?_
  refine xm_E_s r_X9_doneAt_1 rfl rfl ?_
  refine xm_E_t q0 ?_
  refine xm_E_s r_X9_doneAt_14 rfl rfl ?_
  exact xm_E_iret r_X9_doneAt_15 rfl rfl
theorem p_X9_doneAt_0_1 {X : xm_X} {P : List xm_M} {d : Nat} {h : xm_H} {l0 : Nat} {l1 : Int32} (q0 : ¬ (l1 < (0 : Int32))) (q1 : X.1[l0]? = some (.inr 8)) (q2 : h.1 l0 2 ≤ l1) : xm_E X P d co_X9_doneAt 0 [some (.ref l0), some (.int l1)] [] h (some (.int (-1 : Int32))) h := by
  refine xm_E_s r_X9_doneAt_0 rfl rfl ?_
  refine xm_E_s r_X9_doneAt_1 rfl rfl ?_
  refine xm_E_f q0 ?_
  refine xm_E_s r_X9_doneAt_2 rfl rfl ?_
  refine xm_E_s r_X9_doneAt_3 rfl rfl ?_
  refine xm_E_s r_X9_doneAt_4 rfl (xm_T_gi rfl q1 rfl (Or.inl rfl)) ?_
  refine xm_E_s r_X9_doneAt_5 rfl rfl ?_
  refine xm_E_t q2 ?_
  refine xm_E_s r_X9_doneAt_14 rfl rfl ?_
  exact xm_E_iret r_X9_doneAt_15 rfl rfl
theorem p_X9_doneAt_0_2 {X : xm_X} {P : List xm_M} {d : Nat} {h : xm_H} {l0 : Nat} {l1 : Int32} (q0 : ¬ (l1 < (0 : Int32))) (q1 : X.1[l0]? = some (.inr 8)) (q2 : ¬ (h.1 l0 2 ≤ l1)) (q3 : (60 : Int32) ≤ l1) : xm_E X P d co_X9_doneAt 0 [some (.ref l0), some (.int l1)] [] h (some (.int (-1 : Int32))) h := by
  refine xm_E_s r_X9_doneAt_0 rfl rfl ?_
  refine xm_E_s r_X9_doneAt_1 rfl rfl ?_
  refine xm_E_f q0 ?_
  refine xm_E_s r_X9_doneAt_2 rfl rfl ?_
  refine xm_E_s r_X9_doneAt_3 rfl rfl ?_
  refine xm_E_s r_X9_doneAt_4 rfl (xm_T_gi rfl q1 rfl (Or.inl rfl)) ?_
  refine xm_E_s r_X9_doneAt_5 rfl rfl ?_
  refine xm_E_f q2 ?_
  refine xm_E_s r_X9_doneAt_6 rfl rfl ?_
  refine xm_E_s r_X9_doneAt_7 rfl rfl ?_
  refine xm_E_s r_X9_doneAt_8 rfl rfl ?_
  refine xm_E_t q3 ?_
  refine xm_E_s r_X9_doneAt_14 rfl rfl ?_
  exact xm_E_iret r_X9_doneAt_15 rfl rfl
theorem p_X9_doneAt_0_3 {X : xm_X} {P : List xm_M} {d : Nat} {h : xm_H} {l0 : Nat} {l1 : Int32} {v0 : Nat} {n1 : Nat} (q0 : ¬ (l1 < (0 : Int32))) (q1 : X.1[l0]? = some (.inr 8)) (q2 : ¬ (h.1 l0 2 ≤ l1)) (q3 : ¬ ((60 : Int32) ≤ l1)) (q4 : h.2.2 l0 1 = some v0) (q5 : X.1[v0]? = some (.inl (0, n1))) (q6 : ¬ (l1 < 0 ∨ n1 ≤ l1.toNatClampNeg)) : xm_E X P d co_X9_doneAt 0 [some (.ref l0), some (.int l1)] [] h (some (.int (h.1 v0 l1.toNatClampNeg))) h := by
  refine xm_E_s r_X9_doneAt_0 rfl rfl ?_
  refine xm_E_s r_X9_doneAt_1 rfl rfl ?_
  refine xm_E_f q0 ?_
  refine xm_E_s r_X9_doneAt_2 rfl rfl ?_
  refine xm_E_s r_X9_doneAt_3 rfl rfl ?_
  refine xm_E_s r_X9_doneAt_4 rfl (xm_T_gi rfl q1 rfl (Or.inl rfl)) ?_
  refine xm_E_s r_X9_doneAt_5 rfl rfl ?_
  refine xm_E_f q2 ?_
  refine xm_E_s r_X9_doneAt_6 rfl rfl ?_
  refine xm_E_s r_X9_doneAt_7 rfl rfl ?_
  refine xm_E_s r_X9_doneAt_8 rfl rfl ?_
  refine xm_E_f q3 ?_
  refine xm_E_s r_X9_doneAt_9 rfl rfl ?_
  refine xm_E_s r_X9_doneAt_10 rfl (xm_T_gr rfl q1 rfl rfl q4) ?_
  refine xm_E_s r_X9_doneAt_11 rfl rfl ?_
  refine xm_E_s r_X9_doneAt_12 rfl (xm_T_iald rfl q5 (by decide) q6) ?_
  refine xm_E_s r_X9_doneAt_13 rfl rfl ?_
  exact xm_E_iret r_X9_doneAt_15 rfl rfl
end XMPA
