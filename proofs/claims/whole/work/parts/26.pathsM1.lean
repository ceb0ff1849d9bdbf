/-! Ways through methods, printed by wip/gen/paths.py -/
section XMPA
theorem r_X11_image_0 : co_X11_image[0]? = some ((0, .iload_n 1, 0, 0, 0, 0, 0, 0, []) : xm_I) := rfl
theorem r_X11_image_1 : co_X11_image[1]? = some ((1, .i2l, 0, 0, 0, 0, 0, 0, []) : xm_I) := rfl
theorem r_X11_image_2 : co_X11_image[2]? = some ((2, .lconst 0, 0, 0, 0, 0, 0, 0, []) : xm_I) := rfl
theorem r_X11_image_3 : co_X11_image[3]? = some ((3, .ldc2_w 82, 1502, 0, 0, 0, 0, 2, []) : xm_I) := rfl
theorem r_X11_image_4 : co_X11_image[4]? = some ((6, .invokestatic 84, 1503, 191, 3, 0, 0, 0, []) : xm_I) := rfl
theorem r_X11_image_5 : co_X11_image[5]? = some ((9, .ifCond .ne 6, 0, 0, 8, 0, 0, 0, []) : xm_I) := rfl
theorem r_X11_image_6 : co_X11_image[6]? = some ((12, .bipush (-2), 0, 0, 0, 0, (-2), 0, []) : xm_I) := rfl
theorem r_X11_image_7 : co_X11_image[7]? = some ((14, .ireturn, 0, 0, 0, 0, 0, 0, []) : xm_I) := rfl
theorem r_X11_image_8 : co_X11_image[8]? = some ((15, .iconst 0, 0, 0, 0, 0, 0, 0, []) : xm_I) := rfl
theorem r_X11_image_9 : co_X11_image[9]? = some ((16, .istore_n 2, 0, 0, 0, 0, 0, 0, []) : xm_I) := rfl
theorem r_X11_image_10 : co_X11_image[10]? = some ((17, .iload_n 2, 0, 0, 0, 0, 0, 0, []) : xm_I) := rfl
theorem r_X11_image_11 : co_X11_image[11]? = some ((18, .bipush 110, 0, 0, 0, 0, 110, 0, []) : xm_I) := rfl
theorem r_X11_image_12 : co_X11_image[12]? = some ((20, .if_icmp .ge 26, 0, 0, 27, 0, 0, 0, []) : xm_I) := rfl
theorem r_X11_image_13 : co_X11_image[13]? = some ((23, .aload_n 0, 0, 0, 0, 0, 0, 0, []) : xm_I) := rfl
theorem r_X11_image_14 : co_X11_image[14]? = some ((24, .getfield 13, 1382, 10, 2, 2, 0, 0, []) : xm_I) := rfl
theorem r_X11_image_15 : co_X11_image[15]? = some ((27, .bipush 110, 0, 0, 0, 0, 110, 0, []) : xm_I) := rfl
theorem r_X11_image_16 : co_X11_image[16]? = some ((29, .iload_n 1, 0, 0, 0, 0, 0, 0, []) : xm_I) := rfl
theorem r_X11_image_17 : co_X11_image[17]? = some ((30, .imul, 0, 0, 0, 0, 0, 0, []) : xm_I) := rfl
theorem r_X11_image_18 : co_X11_image[18]? = some ((31, .iload_n 2, 0, 0, 0, 0, 0, 0, []) : xm_I) := rfl
theorem r_X11_image_19 : co_X11_image[19]? = some ((32, .iadd, 0, 0, 0, 0, 0, 0, []) : xm_I) := rfl
theorem r_X11_image_20 : co_X11_image[20]? = some ((33, .aload_n 0, 0, 0, 0, 0, 0, 0, []) : xm_I) := rfl
theorem r_X11_image_21 : co_X11_image[21]? = some ((34, .getfield 9, 1381, 10, 1, 2, 0, 0, []) : xm_I) := rfl
theorem r_X11_image_22 : co_X11_image[22]? = some ((37, .iload_n 2, 0, 0, 0, 0, 0, 0, []) : xm_I) := rfl
theorem r_X11_image_23 : co_X11_image[23]? = some ((38, .iaload, 0, 0, 0, 0, 0, 0, []) : xm_I) := rfl
theorem r_X11_image_24 : co_X11_image[24]? = some ((39, .iastore, 0, 0, 0, 0, 0, 0, []) : xm_I) := rfl
theorem r_X11_image_25 : co_X11_image[25]? = some ((40, .iinc 2 1, 0, 0, 0, 0, 1, 0, []) : xm_I) := rfl
theorem r_X11_image_26 : co_X11_image[26]? = some ((43, .goto (-26), 0, 0, 10, 0, 0, 0, []) : xm_I) := rfl
theorem r_X11_image_27 : co_X11_image[27]? = some ((46, .aload_n 0, 0, 0, 0, 0, 0, 0, []) : xm_I) := rfl
theorem r_X11_image_28 : co_X11_image[28]? = some ((47, .getfield 16, 1383, 10, 3, 2, 0, 0, []) : xm_I) := rfl
theorem r_X11_image_29 : co_X11_image[29]? = some ((50, .iload_n 1, 0, 0, 0, 0, 0, 0, []) : xm_I) := rfl
theorem r_X11_image_30 : co_X11_image[30]? = some ((51, .iconst 1, 0, 0, 0, 0, 1, 0, []) : xm_I) := rfl
theorem r_X11_image_31 : co_X11_image[31]? = some ((52, .bastore, 0, 0, 0, 0, 0, 0, []) : xm_I) := rfl
theorem r_X11_image_32 : co_X11_image[32]? = some ((53, .iconst 0, 0, 0, 0, 0, 0, 0, []) : xm_I) := rfl
theorem r_X11_image_33 : co_X11_image[33]? = some ((54, .ireturn, 0, 0, 0, 0, 0, 0, []) : xm_I) := rfl
theorem p_X11_image_0_0 {X : xm_X} {P : List xm_M} {d : Nat} {h : xm_H} {l0 : Nat} {l1 : Int32} {h0 : xm_H} {r0 : Int32} (q0 : xm_V X P d 191 [.long l1.toInt64, .long (0 : Int64), .long (2 : Int64)] h (some (.int r0)) h0) (q1 : r0 = (0 : Int32)) : xm_E X P d co_X11_image 0 [some (.ref l0), some (.int l1), none] [] h (some (.int (-2 : Int32))) h0 := by
  refine xm_E_s r_X11_image_0 rfl rfl ?_
  refine xm_E_s r_X11_image_1 rfl rfl ?_
  refine xm_E_s r_X11_image_2 rfl rfl ?_
  refine xm_E_s r_X11_image_3 rfl rfl ?_
  refine xm_E_cs [.long l1.toInt64, .long (0 : Int64), .long (2 : Int64)] [] r_X11_image_4 rfl rfl rfl (Nat.le_of_ble_eq_true rfl) rfl q0 ?_
  refine xm_E_s r_X11_image_5 rfl rfl ?_
  refine xm_E_t q1 ?_
  refine xm_E_s r_X11_image_6 rfl rfl ?_
  exact xm_E_iret r_X11_image_7 rfl rfl
theorem p_X11_image_0_1 {X : xm_X} {P : List xm_M} {d : Nat} {h : xm_H} {l0 : Nat} {l1 : Int32} {h0 : xm_H} {r0 : Int32} {ro : Option Value} {ho : xm_H} (q0 : xm_V X P d 191 [.long l1.toInt64, .long (0 : Int64), .long (2 : Int64)] h (some (.int r0)) h0) (q1 : ¬ (r0 = (0 : Int32))) (K : xm_E X P d co_X11_image 10 [some (.ref l0), some (.int l1), some (.int (0 : Int32))] [] h0 ro ho) : xm_E X P d co_X11_image 0 [some (.ref l0), some (.int l1), none] [] h ro ho := by
  refine xm_E_s r_X11_image_0 rfl rfl ?_
  refine xm_E_s r_X11_image_1 rfl rfl ?_
  refine xm_E_s r_X11_image_2 rfl rfl ?_
  refine xm_E_s r_X11_image_3 rfl rfl ?_
  refine xm_E_cs [.long l1.toInt64, .long (0 : Int64), .long (2 : Int64)] [] r_X11_image_4 rfl rfl rfl (Nat.le_of_ble_eq_true rfl) rfl q0 ?_
  refine xm_E_s r_X11_image_5 rfl rfl ?_
  refine xm_E_f q1 ?_
  refine xm_E_s r_X11_image_8 rfl rfl ?_
  refine xm_E_s (ls1 := [some (.ref l0), some (.int l1), some (.int (0 : Int32))]) r_X11_image_9 rfl rfl ?_
  exact K
theorem p_X11_image_10_0 {X : xm_X} {P : List xm_M} {d : Nat} {h : xm_H} {l0 : Nat} {l1 : Int32} {l2 : Int32} {v0 : Nat} {n1 : Nat} (q0 : (110 : Int32) ≤ l2) (q1 : X.1[l0]? = some (.inr 10)) (q2 : h.2.2 l0 3 = some v0) (q3 : X.1[v0]? = some (.inl (2, n1))) (q4 : ¬ (l1 < 0 ∨ n1 ≤ l1.toNatClampNeg)) : xm_E X P d co_X11_image 10 [some (.ref l0), some (.int l1), some (.int l2)] [] h (some (.int (0 : Int32))) (xm_si h v0 l1.toNatClampNeg (vp_nar .boolean (1 : Int32))) := by
  refine xm_E_s r_X11_image_10 rfl rfl ?_
  refine xm_E_s r_X11_image_11 rfl rfl ?_
  refine xm_E_s r_X11_image_12 rfl rfl ?_
  refine xm_E_t q0 ?_
  refine xm_E_s r_X11_image_27 rfl rfl ?_
  refine xm_E_s r_X11_image_28 rfl (xm_T_gr rfl q1 rfl rfl q2) ?_
  refine xm_E_s r_X11_image_29 rfl rfl ?_
  refine xm_E_s r_X11_image_30 rfl rfl ?_
  refine xm_E_s r_X11_image_31 rfl (xm_T_asz rfl q3 q4) ?_
  refine xm_E_s r_X11_image_32 rfl rfl ?_
  exact xm_E_iret r_X11_image_33 rfl rfl
theorem p_X11_image_10_1 {X : xm_X} {P : List xm_M} {d : Nat} {h : xm_H} {l0 : Nat} {l1 : Int32} {l2 : Int32} {v0 : Nat} {v1 : Nat} {n2 : Nat} {n3 : Nat} {ro : Option Value} {ho : xm_H} (q0 : ¬ ((110 : Int32) ≤ l2)) (q1 : X.1[l0]? = some (.inr 10)) (q2 : h.2.2 l0 2 = some v0) (q3 : h.2.2 l0 1 = some v1) (q4 : X.1[v1]? = some (.inl (0, n2))) (q5 : ¬ (l2 < 0 ∨ n2 ≤ l2.toNatClampNeg)) (q6 : X.1[v0]? = some (.inl (0, n3))) (q7 : ¬ (((110 : Int32) * l1) + l2 < 0 ∨ n3 ≤ (((110 : Int32) * l1) + l2).toNatClampNeg)) (K : xm_E X P d co_X11_image 10 [some (.ref l0), some (.int l1), some (.int (l2 + (1 : Int32)))] [] (xm_si h v0 ((((110 : Int32) * l1) + l2).toNatClampNeg) (h.1 v1 l2.toNatClampNeg)) ro ho) : xm_E X P d co_X11_image 10 [some (.ref l0), some (.int l1), some (.int l2)] [] h ro ho := by
  refine xm_E_s r_X11_image_10 rfl rfl ?_
  refine xm_E_s r_X11_image_11 rfl rfl ?_
  refine xm_E_s r_X11_image_12 rfl rfl ?_
  refine xm_E_f q0 ?_
  refine xm_E_s r_X11_image_13 rfl rfl ?_
  refine xm_E_s r_X11_image_14 rfl (xm_T_gr rfl q1 rfl rfl q2) ?_
  refine xm_E_s r_X11_image_15 rfl rfl ?_
  refine xm_E_s r_X11_image_16 rfl rfl ?_
  refine xm_E_s r_X11_image_17 rfl rfl ?_
  refine xm_E_s r_X11_image_18 rfl rfl ?_
  refine xm_E_s r_X11_image_19 rfl rfl ?_
  refine xm_E_s r_X11_image_20 rfl rfl ?_
  refine xm_E_s r_X11_image_21 rfl (xm_T_gr rfl q1 rfl rfl q3) ?_
  refine xm_E_s r_X11_image_22 rfl rfl ?_
  refine xm_E_s r_X11_image_23 rfl (xm_T_iald rfl q4 (by decide) q5) ?_
  refine xm_E_s r_X11_image_24 rfl (xm_T_asi rfl q6 q7) ?_
  refine xm_E_s (ls1 := [some (.ref l0), some (.int l1), some (.int (l2 + (1 : Int32)))]) r_X11_image_25 rfl rfl ?_
  refine xm_E_s r_X11_image_26 rfl rfl ?_
  exact K
theorem r_X11_in_0 : co_X11_in[0]? = some ((0, .lload_n 0, 0, 0, 0, 0, 0, 0, []) : xm_I) := rfl
theorem r_X11_in_1 : co_X11_in[1]? = some ((1, .lload_n 2, 0, 0, 0, 0, 0, 0, []) : xm_I) := rfl
theorem r_X11_in_2 : co_X11_in[2]? = some ((2, .lcmp, 0, 0, 0, 0, 0, 0, []) : xm_I) := rfl
theorem r_X11_in_3 : co_X11_in[3]? = some ((3, .ifCond .lt 14, 0, 0, 10, 0, 0, 0, []) : xm_I) := rfl
theorem r_X11_in_4 : co_X11_in[4]? = some ((6, .lload_n 0, 0, 0, 0, 0, 0, 0, []) : xm_I) := rfl
theorem r_X11_in_5 : co_X11_in[5]? = some ((7, .lload 4, 0, 0, 0, 0, 0, 0, []) : xm_I) := rfl
theorem r_X11_in_6 : co_X11_in[6]? = some ((9, .lcmp, 0, 0, 0, 0, 0, 0, []) : xm_I) := rfl
theorem r_X11_in_7 : co_X11_in[7]? = some ((10, .ifCond .gt 7, 0, 0, 10, 0, 0, 0, []) : xm_I) := rfl
theorem r_X11_in_8 : co_X11_in[8]? = some ((13, .iconst 1, 0, 0, 0, 0, 1, 0, []) : xm_I) := rfl
theorem r_X11_in_9 : co_X11_in[9]? = some ((14, .goto 4, 0, 0, 11, 0, 0, 0, []) : xm_I) := rfl
theorem r_X11_in_10 : co_X11_in[10]? = some ((17, .iconst 0, 0, 0, 0, 0, 0, 0, []) : xm_I) := rfl
theorem r_X11_in_11 : co_X11_in[11]? = some ((18, .ireturn, 0, 0, 0, 3, 0, 0, []) : xm_I) := rfl
theorem p_X11_in_0_0 {X : xm_X} {P : List xm_M} {d : Nat} {h : xm_H} {l0 : Int64} {l2 : Int64} {l4 : Int64} (q0 : lg_cmp l0 l2 < (0 : Int32)) : xm_E X P d co_X11_in 0 [some (.long l0), none, some (.long l2), none, some (.long l4), none] [] h (some (.int (0 : Int32))) h := by
  refine xm_E_s r_X11_in_0 rfl rfl ?_
  refine xm_E_s r_X11_in_1 rfl rfl ?_
  refine xm_E_s r_X11_in_2 rfl rfl ?_
  refine xm_E_s r_X11_in_3 rfl rfl ?_
  refine xm_E_t q0 ?_
  refine xm_E_s r_X11_in_10 rfl rfl ?_
  exact xm_E_iret r_X11_in_11 rfl rfl
theorem p_X11_in_0_1 {X : xm_X} {P : List xm_M} {d : Nat} {h : xm_H} {l0 : Int64} {l2 : Int64} {l4 : Int64} (q0 : ¬ (lg_cmp l0 l2 < (0 : Int32))) (q1 : (0 : Int32) < lg_cmp l0 l4) : xm_E X P d co_X11_in 0 [some (.long l0), none, some (.long l2), none, some (.long l4), none] [] h (some (.int (0 : Int32))) h := by
  refine xm_E_s r_X11_in_0 rfl rfl ?_
  refine xm_E_s r_X11_in_1 rfl rfl ?_
  refine xm_E_s r_X11_in_2 rfl rfl ?_
  refine xm_E_s r_X11_in_3 rfl rfl ?_
  refine xm_E_f q0 ?_
  refine xm_E_s r_X11_in_4 rfl rfl ?_
  refine xm_E_s r_X11_in_5 rfl rfl ?_
  refine xm_E_s r_X11_in_6 rfl rfl ?_
  refine xm_E_s r_X11_in_7 rfl rfl ?_
  refine xm_E_t q1 ?_
  refine xm_E_s r_X11_in_10 rfl rfl ?_
  exact xm_E_iret r_X11_in_11 rfl rfl
theorem p_X11_in_0_2 {X : xm_X} {P : List xm_M} {d : Nat} {h : xm_H} {l0 : Int64} {l2 : Int64} {l4 : Int64} (q0 : ¬ (lg_cmp l0 l2 < (0 : Int32))) (q1 : ¬ ((0 : Int32) < lg_cmp l0 l4)) : xm_E X P d co_X11_in 0 [some (.long l0), none, some (.long l2), none, some (.long l4), none] [] h (some (.int (1 : Int32))) h := by
  refine xm_E_s r_X11_in_0 rfl rfl ?_
  refine xm_E_s r_X11_in_1 rfl rfl ?_
  refine xm_E_s r_X11_in_2 rfl rfl ?_
  refine xm_E_s r_X11_in_3 rfl rfl ?_
  refine xm_E_f q0 ?_
  refine xm_E_s r_X11_in_4 rfl rfl ?_
  refine xm_E_s r_X11_in_5 rfl rfl ?_
  refine xm_E_s r_X11_in_6 rfl rfl ?_
  refine xm_E_s r_X11_in_7 rfl rfl ?_
  refine xm_E_f q1 ?_
  refine xm_E_s r_X11_in_8 rfl rfl ?_
  refine xm_E_s r_X11_in_9 rfl rfl ?_
  exact xm_E_iret r_X11_in_11 rfl rfl
theorem r_X11_back_0 : co_X11_back[0]? = some ((0, .iload_n 1, 0, 0, 0, 0, 0, 0, []) : xm_I) := rfl
theorem r_X11_back_1 : co_X11_back[1]? = some ((1, .i2l, 0, 0, 0, 0, 0, 0, []) : xm_I) := rfl
theorem r_X11_back_2 : co_X11_back[2]? = some ((2, .lconst 0, 0, 0, 0, 0, 0, 0, []) : xm_I) := rfl
theorem r_X11_back_3 : co_X11_back[3]? = some ((3, .ldc2_w 82, 1502, 0, 0, 0, 0, 2, []) : xm_I) := rfl
theorem r_X11_back_4 : co_X11_back[4]? = some ((6, .invokestatic 84, 1503, 191, 3, 0, 0, 0, []) : xm_I) := rfl
theorem r_X11_back_5 : co_X11_back[5]? = some ((9, .ifCond .ne 6, 0, 0, 8, 0, 0, 0, []) : xm_I) := rfl
theorem r_X11_back_6 : co_X11_back[6]? = some ((12, .bipush (-2), 0, 0, 0, 0, (-2), 0, []) : xm_I) := rfl
theorem r_X11_back_7 : co_X11_back[7]? = some ((14, .ireturn, 0, 0, 0, 0, 0, 0, []) : xm_I) := rfl
theorem r_X11_back_8 : co_X11_back[8]? = some ((15, .aload_n 0, 0, 0, 0, 0, 0, 0, []) : xm_I) := rfl
theorem r_X11_back_9 : co_X11_back[9]? = some ((16, .getfield 16, 1383, 10, 3, 2, 0, 0, []) : xm_I) := rfl
theorem r_X11_back_10 : co_X11_back[10]? = some ((19, .iload_n 1, 0, 0, 0, 0, 0, 0, []) : xm_I) := rfl
theorem r_X11_back_11 : co_X11_back[11]? = some ((20, .baload, 0, 0, 0, 0, 0, 0, []) : xm_I) := rfl
theorem r_X11_back_12 : co_X11_back[12]? = some ((21, .ifCond .ne 6, 0, 0, 15, 0, 0, 0, []) : xm_I) := rfl
theorem r_X11_back_13 : co_X11_back[13]? = some ((24, .bipush (-6), 0, 0, 0, 0, (-6), 0, []) : xm_I) := rfl
theorem r_X11_back_14 : co_X11_back[14]? = some ((26, .ireturn, 0, 0, 0, 0, 0, 0, []) : xm_I) := rfl
theorem r_X11_back_15 : co_X11_back[15]? = some ((27, .iconst 0, 0, 0, 0, 0, 0, 0, []) : xm_I) := rfl
theorem r_X11_back_16 : co_X11_back[16]? = some ((28, .istore_n 2, 0, 0, 0, 0, 0, 0, []) : xm_I) := rfl
theorem r_X11_back_17 : co_X11_back[17]? = some ((29, .iload_n 2, 0, 0, 0, 0, 0, 0, []) : xm_I) := rfl
theorem r_X11_back_18 : co_X11_back[18]? = some ((30, .bipush 110, 0, 0, 0, 0, 110, 0, []) : xm_I) := rfl
theorem r_X11_back_19 : co_X11_back[19]? = some ((32, .if_icmp .ge 26, 0, 0, 34, 0, 0, 0, []) : xm_I) := rfl
theorem r_X11_back_20 : co_X11_back[20]? = some ((35, .aload_n 0, 0, 0, 0, 0, 0, 0, []) : xm_I) := rfl
theorem r_X11_back_21 : co_X11_back[21]? = some ((36, .getfield 9, 1381, 10, 1, 2, 0, 0, []) : xm_I) := rfl
theorem r_X11_back_22 : co_X11_back[22]? = some ((39, .iload_n 2, 0, 0, 0, 0, 0, 0, []) : xm_I) := rfl
theorem r_X11_back_23 : co_X11_back[23]? = some ((40, .aload_n 0, 0, 0, 0, 0, 0, 0, []) : xm_I) := rfl
theorem r_X11_back_24 : co_X11_back[24]? = some ((41, .getfield 13, 1382, 10, 2, 2, 0, 0, []) : xm_I) := rfl
theorem r_X11_back_25 : co_X11_back[25]? = some ((44, .bipush 110, 0, 0, 0, 0, 110, 0, []) : xm_I) := rfl
theorem r_X11_back_26 : co_X11_back[26]? = some ((46, .iload_n 1, 0, 0, 0, 0, 0, 0, []) : xm_I) := rfl
theorem r_X11_back_27 : co_X11_back[27]? = some ((47, .imul, 0, 0, 0, 0, 0, 0, []) : xm_I) := rfl
theorem r_X11_back_28 : co_X11_back[28]? = some ((48, .iload_n 2, 0, 0, 0, 0, 0, 0, []) : xm_I) := rfl
theorem r_X11_back_29 : co_X11_back[29]? = some ((49, .iadd, 0, 0, 0, 0, 0, 0, []) : xm_I) := rfl
theorem r_X11_back_30 : co_X11_back[30]? = some ((50, .iaload, 0, 0, 0, 0, 0, 0, []) : xm_I) := rfl
theorem r_X11_back_31 : co_X11_back[31]? = some ((51, .iastore, 0, 0, 0, 0, 0, 0, []) : xm_I) := rfl
theorem r_X11_back_32 : co_X11_back[32]? = some ((52, .iinc 2 1, 0, 0, 0, 0, 1, 0, []) : xm_I) := rfl
theorem r_X11_back_33 : co_X11_back[33]? = some ((55, .goto (-26), 0, 0, 17, 0, 0, 0, []) : xm_I) := rfl
theorem r_X11_back_34 : co_X11_back[34]? = some ((58, .iconst 0, 0, 0, 0, 0, 0, 0, []) : xm_I) := rfl
theorem r_X11_back_35 : co_X11_back[35]? = some ((59, .ireturn, 0, 0, 0, 0, 0, 0, []) : xm_I) := rfl
theorem p_X11_back_0_0 {X : xm_X} {P : List xm_M} {d : Nat} {h : xm_H} {l0 : Nat} {l1 : Int32} {h0 : xm_H} {r0 : Int32} (q0 : xm_V X P d 191 [.long l1.toInt64, .long (0 : Int64), .long (2 : Int64)] h (some (.int r0)) h0) (q1 : r0 = (0 : Int32)) : xm_E X P d co_X11_back 0 [some (.ref l0), some (.int l1), none] [] h (some (.int (-2 : Int32))) h0 := by
  refine xm_E_s r_X11_back_0 rfl rfl ?_
  refine xm_E_s r_X11_back_1 rfl rfl ?_
  refine xm_E_s r_X11_back_2 rfl rfl ?_
  refine xm_E_s r_X11_back_3 rfl rfl ?_
  refine xm_E_cs [.long l1.toInt64, .long (0 : Int64), .long (2 : Int64)] [] r_X11_back_4 rfl rfl rfl (Nat.le_of_ble_eq_true rfl) rfl q0 ?_
  refine xm_E_s r_X11_back_5 rfl rfl ?_
  refine xm_E_t q1 ?_
  refine xm_E_s r_X11_back_6 rfl rfl ?_
  exact xm_E_iret r_X11_back_7 rfl rfl
theorem p_X11_back_0_1 {X : xm_X} {P : List xm_M} {d : Nat} {h : xm_H} {l0 : Nat} {l1 : Int32} {h0 : xm_H} {r0 : Int32} {v1 : Nat} {n2 : Nat} {b2 : Nat} (q0 : xm_V X P d 191 [.long l1.toInt64, .long (0 : Int64), .long (2 : Int64)] h (some (.int r0)) h0) (q1 : ¬ (r0 = (0 : Int32))) (q2 : X.1[l0]? = some (.inr 10)) (q3 : h0.2.2 l0 3 = some v1) (q4 : X.1[v1]? = some (.inl (b2, n2))) (q5 : ¬ (l1 < 0 ∨ n2 ≤ l1.toNatClampNeg)) (q6 : 1 ≤ b2 ∧ b2 ≤ 2) (q7 : h0.1 v1 l1.toNatClampNeg = (0 : Int32)) : xm_E X P d co_X11_back 0 [some (.ref l0), some (.int l1), none] [] h (some (.int (-6 : Int32))) h0 := by
  refine xm_E_s r_X11_back_0 rfl rfl ?_
  refine xm_E_s r_X11_back_1 rfl rfl ?_
  refine xm_E_s r_X11_back_2 rfl rfl ?_
  refine xm_E_s r_X11_back_3 rfl rfl ?_
  refine xm_E_cs [.long l1.toInt64, .long (0 : Int64), .long (2 : Int64)] [] r_X11_back_4 rfl rfl rfl (Nat.le_of_ble_eq_true rfl) rfl q0 ?_
  refine xm_E_s r_X11_back_5 rfl rfl ?_
  refine xm_E_f q1 ?_
  refine xm_E_s r_X11_back_8 rfl rfl ?_
  refine xm_E_s r_X11_back_9 rfl (xm_T_gr rfl q2 rfl rfl q3) ?_
  refine xm_E_s r_X11_back_10 rfl rfl ?_
  refine xm_E_s r_X11_back_11 rfl (xm_T_bald rfl q4 q6 q5) ?_
  refine xm_E_s r_X11_back_12 rfl rfl ?_
  refine xm_E_t q7 ?_
  refine xm_E_s r_X11_back_13 rfl rfl ?_
  exact xm_E_iret r_X11_back_14 rfl rfl
theorem p_X11_back_0_2 {X : xm_X} {P : List xm_M} {d : Nat} {h : xm_H} {l0 : Nat} {l1 : Int32} {h0 : xm_H} {r0 : Int32} {v1 : Nat} {n2 : Nat} {b2 : Nat} {ro : Option Value} {ho : xm_H} (q0 : xm_V X P d 191 [.long l1.toInt64, .long (0 : Int64), .long (2 : Int64)] h (some (.int r0)) h0) (q1 : ¬ (r0 = (0 : Int32))) (q2 : X.1[l0]? = some (.inr 10)) (q3 : h0.2.2 l0 3 = some v1) (q4 : X.1[v1]? = some (.inl (b2, n2))) (q5 : ¬ (l1 < 0 ∨ n2 ≤ l1.toNatClampNeg)) (q6 : 1 ≤ b2 ∧ b2 ≤ 2) (q7 : ¬ (h0.1 v1 l1.toNatClampNeg = (0 : Int32))) (K : xm_E X P d co_X11_back 17 [some (.ref l0), some (.int l1), some (.int (0 : Int32))] [] h0 ro ho) : xm_E X P d co_X11_back 0 [some (.ref l0), some (.int l1), none] [] h ro ho := by
  refine xm_E_s r_X11_back_0 rfl rfl ?_
  refine xm_E_s r_X11_back_1 rfl rfl ?_
  refine xm_E_s r_X11_back_2 rfl rfl ?_
  refine xm_E_s r_X11_back_3 rfl rfl ?_
  refine xm_E_cs [.long l1.toInt64, .long (0 : Int64), .long (2 : Int64)] [] r_X11_back_4 rfl rfl rfl (Nat.le_of_ble_eq_true rfl) rfl q0 ?_
  refine xm_E_s r_X11_back_5 rfl rfl ?_
  refine xm_E_f q1 ?_
  refine xm_E_s r_X11_back_8 rfl rfl ?_
  refine xm_E_s r_X11_back_9 rfl (xm_T_gr rfl q2 rfl rfl q3) ?_
  refine xm_E_s r_X11_back_10 rfl rfl ?_
  refine xm_E_s r_X11_back_11 rfl (xm_T_bald rfl q4 q6 q5) ?_
  refine xm_E_s r_X11_back_12 rfl rfl ?_
  refine xm_E_f q7 ?_
  refine xm_E_s r_X11_back_15 rfl rfl ?_
  refine xm_E_s (ls1 := [some (.ref l0), some (.int l1), some (.int (0 : Int32))]) r_X11_back_16 rfl rfl ?_
  exact K
theorem p_X11_back_17_0 {X : xm_X} {P : List xm_M} {d : Nat} {h : xm_H} {l0 : Nat} {l1 : Int32} {l2 : Int32} (q0 : (110 : Int32) ≤ l2) : xm_E X P d co_X11_back 17 [some (.ref l0), some (.int l1), some (.int l2)] [] h (some (.int (0 : Int32))) h := by
  refine xm_E_s r_X11_back_17 rfl rfl ?_
  refine xm_E_s r_X11_back_18 rfl rfl ?_
  refine xm_E_s r_X11_back_19 rfl rfl ?_
  refine xm_E_t q0 ?_
  refine xm_E_s r_X11_back_34 rfl rfl ?_
  exact xm_E_iret r_X11_back_35 rfl rfl
theorem p_X11_back_17_1 {X : xm_X} {P : List xm_M} {d : Nat} {h : xm_H} {l0 : Nat} {l1 : Int32} {l2 : Int32} {v0 : Nat} {v1 : Nat} {n2 : Nat} {n3 : Nat} {ro : Option Value} {ho : xm_H} (q0 : ¬ ((110 : Int32) ≤ l2)) (q1 : X.1[l0]? = some (.inr 10)) (q2 : h.2.2 l0 1 = some v0) (q3 : h.2.2 l0 2 = some v1) (q4 : X.1[v1]? = some (.inl (0, n2))) (q5 : ¬ (((110 : Int32) * l1) + l2 < 0 ∨ n2 ≤ (((110 : Int32) * l1) + l2).toNatClampNeg)) (q6 : X.1[v0]? = some (.inl (0, n3))) (q7 : ¬ (l2 < 0 ∨ n3 ≤ l2.toNatClampNeg)) (K : xm_E X P d co_X11_back 17 [some (.ref l0), some (.int l1), some (.int (l2 + (1 : Int32)))] [] (xm_si h v0 l2.toNatClampNeg (h.1 v1 ((((110 : Int32) * l1) + l2).toNatClampNeg))) ro ho) : xm_E X P d co_X11_back 17 [some (.ref l0), some (.int l1), some (.int l2)] [] h ro ho := by
  refine xm_E_s r_X11_back_17 rfl rfl ?_
  refine xm_E_s r_X11_back_18 rfl rfl ?_
  refine xm_E_s r_X11_back_19 rfl rfl ?_
  refine xm_E_f q0 ?_
  refine xm_E_s r_X11_back_20 rfl rfl ?_
  refine xm_E_s r_X11_back_21 rfl (xm_T_gr rfl q1 rfl rfl q2) ?_
  refine xm_E_s r_X11_back_22 rfl rfl ?_
  refine xm_E_s r_X11_back_23 rfl rfl ?_
  refine xm_E_s r_X11_back_24 rfl (xm_T_gr rfl q1 rfl rfl q3) ?_
  refine xm_E_s r_X11_back_25 rfl rfl ?_
  refine xm_E_s r_X11_back_26 rfl rfl ?_
  refine xm_E_s r_X11_back_27 rfl rfl ?_
  refine xm_E_s r_X11_back_28 rfl rfl ?_
  refine xm_E_s r_X11_back_29 rfl rfl ?_
  refine xm_E_s r_X11_back_30 rfl (xm_T_iald rfl q4 (by decide) q5) ?_
  refine xm_E_s r_X11_back_31 rfl (xm_T_asi rfl q6 q7) ?_
  refine xm_E_s (ls1 := [some (.ref l0), some (.int l1), some (.int (l2 + (1 : Int32)))]) r_X11_back_32 rfl rfl ?_
  refine xm_E_s r_X11_back_33 rfl rfl ?_
  exact K
theorem r_X11_feed_0 : co_X11_feed[0]? = some ((0, .aload_n 0, 0, 0, 0, 0, 0, 0, []) : xm_I) := rfl
theorem r_X11_feed_1 : co_X11_feed[1]? = some ((1, .getfield 88, 1385, 10, 5, 0, 0, 0, []) : xm_I) := rfl
theorem r_X11_feed_2 : co_X11_feed[2]? = some ((4, .bipush 20, 0, 0, 0, 0, 20, 0, []) : xm_I) := rfl
theorem r_X11_feed_3 : co_X11_feed[3]? = some ((6, .iadd, 0, 0, 0, 0, 0, 0, []) : xm_I) := rfl
theorem r_X11_feed_4 : co_X11_feed[4]? = some ((7, .sipush 1000, 0, 0, 0, 0, 1000, 0, []) : xm_I) := rfl
theorem r_X11_feed_5 : co_X11_feed[5]? = some ((10, .if_icmp .le 5, 0, 0, 8, 0, 0, 0, []) : xm_I) := rfl
theorem r_X11_feed_6 : co_X11_feed[6]? = some ((13, .iconst (-1), 0, 0, 0, 0, (-1), 0, []) : xm_I) := rfl
theorem r_X11_feed_7 : co_X11_feed[7]? = some ((14, .ireturn, 0, 0, 0, 0, 0, 0, []) : xm_I) := rfl
theorem r_X11_feed_8 : co_X11_feed[8]? = some ((15, .aload_n 0, 0, 0, 0, 0, 0, 0, []) : xm_I) := rfl
theorem r_X11_feed_9 : co_X11_feed[9]? = some ((16, .getfield 24, 1386, 10, 6, 2, 0, 0, []) : xm_I) := rfl
theorem r_X11_feed_10 : co_X11_feed[10]? = some ((19, .iconst 0, 0, 0, 0, 0, 0, 0, []) : xm_I) := rfl
theorem r_X11_feed_11 : co_X11_feed[11]? = some ((20, .iload_n 1, 0, 0, 0, 0, 0, 0, []) : xm_I) := rfl
theorem r_X11_feed_12 : co_X11_feed[12]? = some ((21, .iastore, 0, 0, 0, 0, 0, 0, []) : xm_I) := rfl
theorem r_X11_feed_13 : co_X11_feed[13]? = some ((22, .aload_n 0, 0, 0, 0, 0, 0, 0, []) : xm_I) := rfl
theorem r_X11_feed_14 : co_X11_feed[14]? = some ((23, .getfield 24, 1386, 10, 6, 2, 0, 0, []) : xm_I) := rfl
theorem r_X11_feed_15 : co_X11_feed[15]? = some ((26, .iconst 1, 0, 0, 0, 0, 1, 0, []) : xm_I) := rfl
theorem r_X11_feed_16 : co_X11_feed[16]? = some ((27, .iload_n 2, 0, 0, 0, 0, 0, 0, []) : xm_I) := rfl
theorem r_X11_feed_17 : co_X11_feed[17]? = some ((28, .iastore, 0, 0, 0, 0, 0, 0, []) : xm_I) := rfl
theorem r_X11_feed_18 : co_X11_feed[18]? = some ((29, .aload_n 0, 0, 0, 0, 0, 0, 0, []) : xm_I) := rfl
theorem r_X11_feed_19 : co_X11_feed[19]? = some ((30, .getfield 24, 1386, 10, 6, 2, 0, 0, []) : xm_I) := rfl
theorem r_X11_feed_20 : co_X11_feed[20]? = some ((33, .iconst 2, 0, 0, 0, 0, 2, 0, []) : xm_I) := rfl
theorem r_X11_feed_21 : co_X11_feed[21]? = some ((34, .iload_n 3, 0, 0, 0, 0, 0, 0, []) : xm_I) := rfl
theorem r_X11_feed_22 : co_X11_feed[22]? = some ((35, .iastore, 0, 0, 0, 0, 0, 0, []) : xm_I) := rfl
theorem r_X11_feed_23 : co_X11_feed[23]? = some ((36, .aload_n 0, 0, 0, 0, 0, 0, 0, []) : xm_I) := rfl
theorem r_X11_feed_24 : co_X11_feed[24]? = some ((37, .getfield 24, 1386, 10, 6, 2, 0, 0, []) : xm_I) := rfl
theorem r_X11_feed_25 : co_X11_feed[25]? = some ((40, .iconst 3, 0, 0, 0, 0, 3, 0, []) : xm_I) := rfl
theorem r_X11_feed_26 : co_X11_feed[26]? = some ((41, .iload 4, 0, 0, 0, 0, 0, 0, []) : xm_I) := rfl
theorem r_X11_feed_27 : co_X11_feed[27]? = some ((43, .iastore, 0, 0, 0, 0, 0, 0, []) : xm_I) := rfl
theorem r_X11_feed_28 : co_X11_feed[28]? = some ((44, .aload_n 0, 0, 0, 0, 0, 0, 0, []) : xm_I) := rfl
theorem r_X11_feed_29 : co_X11_feed[29]? = some ((45, .getfield 24, 1386, 10, 6, 2, 0, 0, []) : xm_I) := rfl
theorem r_X11_feed_30 : co_X11_feed[30]? = some ((48, .iconst 4, 0, 0, 0, 0, 4, 0, []) : xm_I) := rfl
theorem r_X11_feed_31 : co_X11_feed[31]? = some ((49, .iload 5, 0, 0, 0, 0, 0, 0, []) : xm_I) := rfl
theorem r_X11_feed_32 : co_X11_feed[32]? = some ((51, .iastore, 0, 0, 0, 0, 0, 0, []) : xm_I) := rfl
theorem r_X11_feed_33 : co_X11_feed[33]? = some ((52, .iconst 0, 0, 0, 0, 0, 0, 0, []) : xm_I) := rfl
theorem r_X11_feed_34 : co_X11_feed[34]? = some ((53, .istore 6, 0, 0, 0, 0, 0, 0, []) : xm_I) := rfl
theorem r_X11_feed_35 : co_X11_feed[35]? = some ((55, .iload 6, 0, 0, 0, 0, 0, 0, []) : xm_I) := rfl
theorem r_X11_feed_36 : co_X11_feed[36]? = some ((57, .bipush 20, 0, 0, 0, 0, 20, 0, []) : xm_I) := rfl
theorem r_X11_feed_37 : co_X11_feed[37]? = some ((59, .if_icmp .ge 42, 0, 0, 62, 0, 0, 0, []) : xm_I) := rfl
theorem r_X11_feed_38 : co_X11_feed[38]? = some ((62, .aload_n 0, 0, 0, 0, 0, 0, 0, []) : xm_I) := rfl
theorem r_X11_feed_39 : co_X11_feed[39]? = some ((63, .getfield 20, 1384, 10, 4, 2, 0, 0, []) : xm_I) := rfl
theorem r_X11_feed_40 : co_X11_feed[40]? = some ((66, .aload_n 0, 0, 0, 0, 0, 0, 0, []) : xm_I) := rfl
theorem r_X11_feed_41 : co_X11_feed[41]? = some ((67, .getfield 88, 1385, 10, 5, 0, 0, 0, []) : xm_I) := rfl
theorem r_X11_feed_42 : co_X11_feed[42]? = some ((70, .iload 6, 0, 0, 0, 0, 0, 0, []) : xm_I) := rfl
theorem r_X11_feed_43 : co_X11_feed[43]? = some ((72, .iadd, 0, 0, 0, 0, 0, 0, []) : xm_I) := rfl
theorem r_X11_feed_44 : co_X11_feed[44]? = some ((73, .aload_n 0, 0, 0, 0, 0, 0, 0, []) : xm_I) := rfl
theorem r_X11_feed_45 : co_X11_feed[45]? = some ((74, .getfield 24, 1386, 10, 6, 2, 0, 0, []) : xm_I) := rfl
theorem r_X11_feed_46 : co_X11_feed[46]? = some ((77, .iload 6, 0, 0, 0, 0, 0, 0, []) : xm_I) := rfl
theorem r_X11_feed_47 : co_X11_feed[47]? = some ((79, .iconst 4, 0, 0, 0, 0, 4, 0, []) : xm_I) := rfl
theorem r_X11_feed_48 : co_X11_feed[48]? = some ((80, .idiv, 0, 0, 0, 0, 0, 0, []) : xm_I) := rfl
theorem r_X11_feed_49 : co_X11_feed[49]? = some ((81, .iaload, 0, 0, 0, 0, 0, 0, []) : xm_I) := rfl
theorem r_X11_feed_50 : co_X11_feed[50]? = some ((82, .bipush 24, 0, 0, 0, 0, 24, 0, []) : xm_I) := rfl
theorem r_X11_feed_51 : co_X11_feed[51]? = some ((84, .bipush 8, 0, 0, 0, 0, 8, 0, []) : xm_I) := rfl
theorem r_X11_feed_52 : co_X11_feed[52]? = some ((86, .iload 6, 0, 0, 0, 0, 0, 0, []) : xm_I) := rfl
theorem r_X11_feed_53 : co_X11_feed[53]? = some ((88, .iconst 4, 0, 0, 0, 0, 4, 0, []) : xm_I) := rfl
theorem r_X11_feed_54 : co_X11_feed[54]? = some ((89, .irem, 0, 0, 0, 0, 0, 0, []) : xm_I) := rfl
theorem r_X11_feed_55 : co_X11_feed[55]? = some ((90, .imul, 0, 0, 0, 0, 0, 0, []) : xm_I) := rfl
theorem r_X11_feed_56 : co_X11_feed[56]? = some ((91, .isub, 0, 0, 0, 0, 0, 0, []) : xm_I) := rfl
theorem r_X11_feed_57 : co_X11_feed[57]? = some ((92, .ishr, 0, 0, 0, 0, 0, 0, []) : xm_I) := rfl
theorem r_X11_feed_58 : co_X11_feed[58]? = some ((93, .i2b, 0, 0, 0, 0, 0, 0, []) : xm_I) := rfl
theorem r_X11_feed_59 : co_X11_feed[59]? = some ((94, .bastore, 0, 0, 0, 0, 0, 0, []) : xm_I) := rfl
theorem r_X11_feed_60 : co_X11_feed[60]? = some ((95, .iinc 6 1, 0, 0, 0, 0, 1, 0, []) : xm_I) := rfl
theorem r_X11_feed_61 : co_X11_feed[61]? = some ((98, .goto (-43), 0, 0, 35, 0, 0, 0, []) : xm_I) := rfl
theorem r_X11_feed_62 : co_X11_feed[62]? = some ((101, .aload_n 0, 0, 0, 0, 0, 0, 0, []) : xm_I) := rfl
theorem r_X11_feed_63 : co_X11_feed[63]? = some ((102, .dup, 0, 0, 0, 0, 0, 0, []) : xm_I) := rfl
theorem r_X11_feed_64 : co_X11_feed[64]? = some ((103, .getfield 88, 1385, 10, 5, 0, 0, 0, []) : xm_I) := rfl
theorem r_X11_feed_65 : co_X11_feed[65]? = some ((106, .bipush 20, 0, 0, 0, 0, 20, 0, []) : xm_I) := rfl
theorem r_X11_feed_66 : co_X11_feed[66]? = some ((108, .iadd, 0, 0, 0, 0, 0, 0, []) : xm_I) := rfl
theorem r_X11_feed_67 : co_X11_feed[67]? = some ((109, .putfield 88, 1385, 10, 5, 0, 0, 0, []) : xm_I) := rfl
theorem r_X11_feed_68 : co_X11_feed[68]? = some ((112, .aload_n 0, 0, 0, 0, 0, 0, 0, []) : xm_I) := rfl
theorem r_X11_feed_69 : co_X11_feed[69]? = some ((113, .getfield 88, 1385, 10, 5, 0, 0, 0, []) : xm_I) := rfl
theorem r_X11_feed_70 : co_X11_feed[70]? = some ((116, .ireturn, 0, 0, 0, 0, 0, 0, []) : xm_I) := rfl
theorem p_X11_feed_0_0 {X : xm_X} {P : List xm_M} {d : Nat} {h : xm_H} {l0 : Nat} {l1 : Int32} {l2 : Int32} {l3 : Int32} {l4 : Int32} {l5 : Int32} {v0 : Nat} {n1 : Nat} {v2 : Nat} {n3 : Nat} {v4 : Nat} {n5 : Nat} {v6 : Nat} {n7 : Nat} {v8 : Nat} {n9 : Nat} {ro : Option Value} {ho : xm_H} (q0 : X.1[l0]? = some (.inr 10)) (q1 : (h.1 l0 5) + (20 : Int32) ≤ (1000 : Int32)) (q2 : h.2.2 l0 6 = some v0) (q3 : X.1[v0]? = some (.inl (0, n1))) (q4 : 0 < n1) (q5 : (xm_si h v0 0 l1).2.2 l0 6 = some v2) (q6 : X.1[v2]? = some (.inl (0, n3))) (q7 : 1 < n3) (q8 : (xm_si (xm_si h v0 0 l1) v2 1 l2).2.2 l0 6 = some v4) (q9 : X.1[v4]? = some (.inl (0, n5))) (q10 : 2 < n5) (q11 : (xm_si (xm_si (xm_si h v0 0 l1) v2 1 l2) v4 2 l3).2.2 l0 6 = some v6) (q12 : X.1[v6]? = some (.inl (0, n7))) (q13 : 3 < n7) (q14 : (xm_si (xm_si (xm_si (xm_si h v0 0 l1) v2 1 l2) v4 2 l3) v6 3 l4).2.2 l0 6 = some v8) (q15 : X.1[v8]? = some (.inl (0, n9))) (q16 : 4 < n9) (K : xm_E X P d co_X11_feed 35 [some (.ref l0), some (.int l1), some (.int l2), some (.int l3), some (.int l4), some (.int l5), some (.int (0 : Int32))] [] (xm_si (xm_si (xm_si (xm_si (xm_si h v0 0 l1) v2 1 l2) v4 2 l3) v6 3 l4) v8 4 l5) ro ho) : xm_E X P d co_X11_feed 0 [some (.ref l0), some (.int l1), some (.int l2), some (.int l3), some (.int l4), some (.int l5), none] [] h ro ho := by
  refine xm_E_s r_X11_feed_0 rfl rfl ?_
  refine xm_E_s r_X11_feed_1 rfl (xm_T_gi rfl q0 rfl (Or.inl rfl)) ?_
  refine xm_E_s r_X11_feed_2 rfl rfl ?_
  refine xm_E_s r_X11_feed_3 rfl rfl ?_
  refine xm_E_s r_X11_feed_4 rfl rfl ?_
  refine xm_E_s r_X11_feed_5 rfl rfl ?_
  refine xm_E_t q1 ?_
  refine xm_E_s r_X11_feed_8 rfl rfl ?_
  refine xm_E_s r_X11_feed_9 rfl (xm_T_gr rfl q0 rfl rfl q2) ?_
  refine xm_E_s r_X11_feed_10 rfl rfl ?_
  refine xm_E_s r_X11_feed_11 rfl rfl ?_
  refine xm_E_s r_X11_feed_12 rfl (xm_T_asi rfl q3 (fun e => e.elim (fun e => absurd e (by decide)) (fun e => Nat.not_le.mpr q4 e))) ?_
  refine xm_E_s r_X11_feed_13 rfl rfl ?_
  refine xm_E_s r_X11_feed_14 rfl (xm_T_gr rfl q0 rfl rfl q5) ?_
  refine xm_E_s r_X11_feed_15 rfl rfl ?_
  refine xm_E_s r_X11_feed_16 rfl rfl ?_
  refine xm_E_s r_X11_feed_17 rfl (xm_T_asi rfl q6 (fun e => e.elim (fun e => absurd e (by decide)) (fun e => Nat.not_le.mpr q7 e))) ?_
  refine xm_E_s r_X11_feed_18 rfl rfl ?_
  refine xm_E_s r_X11_feed_19 rfl (xm_T_gr rfl q0 rfl rfl q8) ?_
  refine xm_E_s r_X11_feed_20 rfl rfl ?_
  refine xm_E_s r_X11_feed_21 rfl rfl ?_
  refine xm_E_s r_X11_feed_22 rfl (xm_T_asi rfl q9 (fun e => e.elim (fun e => absurd e (by decide)) (fun e => Nat.not_le.mpr q10 e))) ?_
  refine xm_E_s r_X11_feed_23 rfl rfl ?_
  refine xm_E_s r_X11_feed_24 rfl (xm_T_gr rfl q0 rfl rfl q11) ?_
  refine xm_E_s r_X11_feed_25 rfl rfl ?_
  refine xm_E_s r_X11_feed_26 rfl rfl ?_
  refine xm_E_s r_X11_feed_27 rfl (xm_T_asi rfl q12 (fun e => e.elim (fun e => absurd e (by decide)) (fun e => Nat.not_le.mpr q13 e))) ?_
  refine xm_E_s r_X11_feed_28 rfl rfl ?_
  refine xm_E_s r_X11_feed_29 rfl (xm_T_gr rfl q0 rfl rfl q14) ?_
  refine xm_E_s r_X11_feed_30 rfl rfl ?_
  refine xm_E_s r_X11_feed_31 rfl rfl ?_
  refine xm_E_s r_X11_feed_32 rfl (xm_T_asi rfl q15 (fun e => e.elim (fun e => absurd e (by decide)) (fun e => Nat.not_le.mpr q16 e))) ?_
  refine xm_E_s r_X11_feed_33 rfl rfl ?_
  refine xm_E_s (ls1 := [some (.ref l0), some (.int l1), some (.int l2), some (.int l3), some (.int l4), some (.int l5), some (.int (0 : Int32))]) r_X11_feed_34 rfl rfl ?_
  exact K
theorem p_X11_feed_0_1 {X : xm_X} {P : List xm_M} {d : Nat} {h : xm_H} {l0 : Nat} {l1 : Int32} {l2 : Int32} {l3 : Int32} {l4 : Int32} {l5 : Int32} (q0 : X.1[l0]? = some (.inr 10)) (q1 : ¬ ((h.1 l0 5) + (20 : Int32) ≤ (1000 : Int32))) : xm_E X P d co_X11_feed 0 [some (.ref l0), some (.int l1), some (.int l2), some (.int l3), some (.int l4), some (.int l5), none] [] h (some (.int (-1 : Int32))) h := by
  refine xm_E_s r_X11_feed_0 rfl rfl ?_
  refine xm_E_s r_X11_feed_1 rfl (xm_T_gi rfl q0 rfl (Or.inl rfl)) ?_
  refine xm_E_s r_X11_feed_2 rfl rfl ?_
  refine xm_E_s r_X11_feed_3 rfl rfl ?_
  refine xm_E_s r_X11_feed_4 rfl rfl ?_
  refine xm_E_s r_X11_feed_5 rfl rfl ?_
  refine xm_E_f q1 ?_
  refine xm_E_s r_X11_feed_6 rfl rfl ?_
  exact xm_E_iret r_X11_feed_7 rfl rfl
theorem p_X11_feed_35_0 {X : xm_X} {P : List xm_M} {d : Nat} {h : xm_H} {l0 : Nat} {l1 : Int32} {l2 : Int32} {l3 : Int32} {l4 : Int32} {l5 : Int32} {l6 : Int32} (q0 : (20 : Int32) ≤ l6) (q1 : X.1[l0]? = some (.inr 10)) : xm_E X P d co_X11_feed 35 [some (.ref l0), some (.int l1), some (.int l2), some (.int l3), some (.int l4), some (.int l5), some (.int l6)] [] h (some (.int ((xm_si h l0 5 ((h.1 l0 5) + (20 : Int32))).1 l0 5))) (xm_si h l0 5 ((h.1 l0 5) + (20 : Int32))) := by
  refine xm_E_s r_X11_feed_35 rfl rfl ?_
  refine xm_E_s r_X11_feed_36 rfl rfl ?_
  refine xm_E_s r_X11_feed_37 rfl rfl ?_
  refine xm_E_t q0 ?_
  refine xm_E_s r_X11_feed_62 rfl rfl ?_
  refine xm_E_s r_X11_feed_63 rfl rfl ?_
  refine xm_E_s r_X11_feed_64 rfl (xm_T_gi rfl q1 rfl (Or.inl rfl)) ?_
  refine xm_E_s r_X11_feed_65 rfl rfl ?_
  refine xm_E_s r_X11_feed_66 rfl rfl ?_
  refine xm_E_s r_X11_feed_67 rfl (xm_T_pi rfl q1 rfl rfl) ?_
  refine xm_E_s r_X11_feed_68 rfl rfl ?_
  refine xm_E_s r_X11_feed_69 rfl (xm_T_gi rfl q1 rfl (Or.inl rfl)) ?_
  exact xm_E_iret r_X11_feed_70 rfl rfl
theorem p_X11_feed_35_1 {X : xm_X} {P : List xm_M} {d : Nat} {h : xm_H} {l0 : Nat} {l1 : Int32} {l2 : Int32} {l3 : Int32} {l4 : Int32} {l5 : Int32} {l6 : Int32} {v0 : Nat} {v1 : Nat} {n2 : Nat} {n3 : Nat} {ro : Option Value} {ho : xm_H} (q0 : ¬ ((20 : Int32) ≤ l6)) (q1 : X.1[l0]? = some (.inr 10)) (q2 : h.2.2 l0 4 = some v0) (q3 : h.2.2 l0 6 = some v1) (q4 : X.1[v1]? = some (.inl (0, n2))) (q5 : ¬ (l6 / (4 : Int32) < 0 ∨ n2 ≤ (l6 / (4 : Int32)).toNatClampNeg)) (q6 : X.1[v0]? = some (.inl (1, n3))) (q7 : ¬ ((h.1 l0 5) + l6 < 0 ∨ n3 ≤ ((h.1 l0 5) + l6).toNatClampNeg)) (K : xm_E X P d co_X11_feed 35 [some (.ref l0), some (.int l1), some (.int l2), some (.int l3), some (.int l4), some (.int l5), some (.int (l6 + (1 : Int32)))] [] (xm_si h v0 (((h.1 l0 5) + l6).toNatClampNeg) (vp_nar .byte (((h.1 v1 ((l6 / (4 : Int32)).toNatClampNeg)) >>> (((24 : Int32) - ((8 : Int32) * (l6 - l6 / (4 : Int32) * (4 : Int32)))) &&& 31)).toInt8.toInt32))) ro ho) : xm_E X P d co_X11_feed 35 [some (.ref l0), some (.int l1), some (.int l2), some (.int l3), some (.int l4), some (.int l5), some (.int l6)] [] h ro ho := by
  refine xm_E_s r_X11_feed_35 rfl rfl ?_
  refine xm_E_s r_X11_feed_36 rfl rfl ?_
  refine xm_E_s r_X11_feed_37 rfl rfl ?_
  refine xm_E_f q0 ?_
  refine xm_E_s r_X11_feed_38 rfl rfl ?_
  refine xm_E_s r_X11_feed_39 rfl (xm_T_gr rfl q1 rfl rfl q2) ?_
  refine xm_E_s r_X11_feed_40 rfl rfl ?_
  refine xm_E_s r_X11_feed_41 rfl (xm_T_gi rfl q1 rfl (Or.inl rfl)) ?_
  refine xm_E_s r_X11_feed_42 rfl rfl ?_
  refine xm_E_s r_X11_feed_43 rfl rfl ?_
  refine xm_E_s r_X11_feed_44 rfl rfl ?_
  refine xm_E_s r_X11_feed_45 rfl (xm_T_gr rfl q1 rfl rfl q3) ?_
  refine xm_E_s r_X11_feed_46 rfl rfl ?_
  refine xm_E_s r_X11_feed_47 rfl rfl ?_
  refine xm_E_s r_X11_feed_48 rfl (xm_T_idiv rfl (by decide)) ?_
  refine xm_E_s r_X11_feed_49 rfl (xm_T_iald rfl q4 (by decide) q5) ?_
  refine xm_E_s r_X11_feed_50 rfl rfl ?_
  refine xm_E_s r_X11_feed_51 rfl rfl ?_
  refine xm_E_s r_X11_feed_52 rfl rfl ?_
  refine xm_E_s r_X11_feed_53 rfl rfl ?_
  refine xm_E_s r_X11_feed_54 rfl (xm_T_irem rfl (by decide)) ?_
  refine xm_E_s r_X11_feed_55 rfl rfl ?_
  refine xm_E_s r_X11_feed_56 rfl rfl ?_
  refine xm_E_s r_X11_feed_57 rfl rfl ?_
  refine xm_E_s r_X11_feed_58 rfl rfl ?_
  refine xm_E_s r_X11_feed_59 rfl (xm_T_asb rfl q6 q7) ?_
  refine xm_E_s (ls1 := [some (.ref l0), some (.int l1), some (.int l2), some (.int l3), some (.int l4), some (.int l5), some (.int (l6 + (1 : Int32)))]) r_X11_feed_60 rfl rfl ?_
  refine xm_E_s r_X11_feed_61 rfl rfl ?_
  exact K
theorem r_X11_end_0 : co_X11_end[0]? = some ((0, .iload_n 1, 0, 0, 0, 0, 0, 0, []) : xm_I) := rfl
theorem r_X11_end_1 : co_X11_end[1]? = some ((1, .i2l, 0, 0, 0, 0, 0, 0, []) : xm_I) := rfl
theorem r_X11_end_2 : co_X11_end[2]? = some ((2, .lconst 0, 0, 0, 0, 0, 0, 0, []) : xm_I) := rfl
theorem r_X11_end_3 : co_X11_end[3]? = some ((3, .aload_n 0, 0, 0, 0, 0, 0, 0, []) : xm_I) := rfl
theorem r_X11_end_4 : co_X11_end[4]? = some ((4, .getfield 88, 1385, 10, 5, 0, 0, 0, []) : xm_I) := rfl
theorem r_X11_end_5 : co_X11_end[5]? = some ((7, .i2l, 0, 0, 0, 0, 0, 0, []) : xm_I) := rfl
theorem r_X11_end_6 : co_X11_end[6]? = some ((8, .invokestatic 84, 1503, 191, 3, 0, 0, 0, []) : xm_I) := rfl
theorem r_X11_end_7 : co_X11_end[7]? = some ((11, .ifCond .ne 5, 0, 0, 10, 0, 0, 0, []) : xm_I) := rfl
theorem r_X11_end_8 : co_X11_end[8]? = some ((14, .iconst (-1), 0, 0, 0, 0, (-1), 0, []) : xm_I) := rfl
theorem r_X11_end_9 : co_X11_end[9]? = some ((15, .ireturn, 0, 0, 0, 0, 0, 0, []) : xm_I) := rfl
theorem r_X11_end_10 : co_X11_end[10]? = some ((16, .aload_n 0, 0, 0, 0, 0, 0, 0, []) : xm_I) := rfl
theorem r_X11_end_11 : co_X11_end[11]? = some ((17, .iload_n 1, 0, 0, 0, 0, 0, 0, []) : xm_I) := rfl
theorem r_X11_end_12 : co_X11_end[12]? = some ((18, .putfield 88, 1385, 10, 5, 0, 0, 0, []) : xm_I) := rfl
theorem r_X11_end_13 : co_X11_end[13]? = some ((21, .iload_n 1, 0, 0, 0, 0, 0, 0, []) : xm_I) := rfl
theorem r_X11_end_14 : co_X11_end[14]? = some ((22, .ireturn, 0, 0, 0, 0, 0, 0, []) : xm_I) := rfl
theorem p_X11_end_0_0 {X : xm_X} {P : List xm_M} {d : Nat} {h : xm_H} {l0 : Nat} {l1 : Int32} {h0 : xm_H} {r0 : Int32} (q0 : X.1[l0]? = some (.inr 10)) (q1 : xm_V X P d 191 [.long l1.toInt64, .long (0 : Int64), .long ((h.1 l0 5).toInt64)] h (some (.int r0)) h0) (q2 : r0 = (0 : Int32)) : xm_E X P d co_X11_end 0 [some (.ref l0), some (.int l1)] [] h (some (.int (-1 : Int32))) h0 := by
  refine xm_E_s r_X11_end_0 rfl rfl ?_
  refine xm_E_s r_X11_end_1 rfl rfl ?_
  refine xm_E_s r_X11_end_2 rfl rfl ?_
  refine xm_E_s r_X11_end_3 rfl rfl ?_
  refine xm_E_s r_X11_end_4 rfl (xm_T_gi rfl q0 rfl (Or.inl rfl)) ?_
  refine xm_E_s r_X11_end_5 rfl rfl ?_
  refine xm_E_cs [.long l1.toInt64, .long (0 : Int64), .long ((h.1 l0 5).toInt64)] [] r_X11_end_6 rfl rfl rfl (Nat.le_of_ble_eq_true rfl) rfl q1 ?_
  refine xm_E_s r_X11_end_7 rfl rfl ?_
  refine xm_E_t q2 ?_
  refine xm_E_s r_X11_end_8 rfl rfl ?_
  exact xm_E_iret r_X11_end_9 rfl rfl
theorem p_X11_end_0_1 {X : xm_X} {P : List xm_M} {d : Nat} {h : xm_H} {l0 : Nat} {l1 : Int32} {h0 : xm_H} {r0 : Int32} (q0 : X.1[l0]? = some (.inr 10)) (q1 : xm_V X P d 191 [.long l1.toInt64, .long (0 : Int64), .long ((h.1 l0 5).toInt64)] h (some (.int r0)) h0) (q2 : ¬ (r0 = (0 : Int32))) : xm_E X P d co_X11_end 0 [some (.ref l0), some (.int l1)] [] h (some (.int l1)) (xm_si h0 l0 5 l1) := by
  refine xm_E_s r_X11_end_0 rfl rfl ?_
  refine xm_E_s r_X11_end_1 rfl rfl ?_
  refine xm_E_s r_X11_end_2 rfl rfl ?_
  refine xm_E_s r_X11_end_3 rfl rfl ?_
  refine xm_E_s r_X11_end_4 rfl (xm_T_gi rfl q0 rfl (Or.inl rfl)) ?_
  refine xm_E_s r_X11_end_5 rfl rfl ?_
  refine xm_E_cs [.long l1.toInt64, .long (0 : Int64), .long ((h.1 l0 5).toInt64)] [] r_X11_end_6 rfl rfl rfl (Nat.le_of_ble_eq_true rfl) rfl q1 ?_
  refine xm_E_s r_X11_end_7 rfl rfl ?_
  refine xm_E_f q2 ?_
  refine xm_E_s r_X11_end_10 rfl rfl ?_
  refine xm_E_s r_X11_end_11 rfl rfl ?_
  refine xm_E_s r_X11_end_12 rfl (xm_T_pi rfl q0 rfl rfl) ?_
  refine xm_E_s r_X11_end_13 rfl rfl ?_
  exact xm_E_iret r_X11_end_14 rfl rfl
theorem r_X11_fault_0 : co_X11_fault[0]? = some ((0, .iload_n 1, 0, 0, 0, 0, 0, 0, []) : xm_I) := rfl
theorem r_X11_fault_1 : co_X11_fault[1]? = some ((1, .ifCond .ne 10, 0, 0, 5, 0, 0, 0, []) : xm_I) := rfl
theorem r_X11_fault_2 : co_X11_fault[2]? = some ((4, .aload_n 0, 0, 0, 0, 0, 0, 0, []) : xm_I) := rfl
theorem r_X11_fault_3 : co_X11_fault[3]? = some ((5, .getfield 125, 1392, 10, 12, 0, 0, 0, []) : xm_I) := rfl
theorem r_X11_fault_4 : co_X11_fault[4]? = some ((8, .goto 16, 0, 0, 12, 0, 0, 0, []) : xm_I) := rfl
theorem r_X11_fault_5 : co_X11_fault[5]? = some ((11, .iload_n 1, 0, 0, 0, 0, 0, 0, []) : xm_I) := rfl
theorem r_X11_fault_6 : co_X11_fault[6]? = some ((12, .iconst 1, 0, 0, 0, 0, 1, 0, []) : xm_I) := rfl
theorem r_X11_fault_7 : co_X11_fault[7]? = some ((13, .if_icmp .ne 10, 0, 0, 11, 0, 0, 0, []) : xm_I) := rfl
theorem r_X11_fault_8 : co_X11_fault[8]? = some ((16, .aload_n 0, 0, 0, 0, 0, 0, 0, []) : xm_I) := rfl
theorem r_X11_fault_9 : co_X11_fault[9]? = some ((17, .getfield 27, 1393, 10, 13, 0, 0, 0, []) : xm_I) := rfl
theorem r_X11_fault_10 : co_X11_fault[10]? = some ((20, .goto 4, 0, 0, 12, 0, 0, 0, []) : xm_I) := rfl
theorem r_X11_fault_11 : co_X11_fault[11]? = some ((23, .iconst (-1), 0, 0, 0, 0, (-1), 0, []) : xm_I) := rfl
theorem r_X11_fault_12 : co_X11_fault[12]? = some ((24, .ireturn, 0, 0, 0, 0, 0, 0, []) : xm_I) := rfl
theorem p_X11_fault_0_0 {X : xm_X} {P : List xm_M} {d : Nat} {h : xm_H} {l0 : Nat} {l1 : Int32} (q0 : l1 = (0 : Int32)) (q1 : X.1[l0]? = some (.inr 10)) : xm_E X P d co_X11_fault 0 [some (.ref l0), some (.int l1)] [] h (some (.int (h.1 l0 12))) h := by
  refine xm_E_s r_X11_fault_0 rfl rfl ?_
  refine xm_E_s r_X11_fault_1 rfl rfl ?_
  refine xm_E_t q0 ?_
  refine xm_E_s r_X11_fault_2 rfl rfl ?_
  refine xm_E_s r_X11_fault_3 rfl (xm_T_gi rfl q1 rfl (Or.inl rfl)) ?_
  refine xm_E_s r_X11_fault_4 rfl rfl ?_
  exact xm_E_iret r_X11_fault_12 rfl rfl
theorem p_X11_fault_0_1 {X : xm_X} {P : List xm_M} {d : Nat} {h : xm_H} {l0 : Nat} {l1 : Int32} (q0 : ¬ (l1 = (0 : Int32))) (q1 : l1 = (1 : Int32)) (q2 : X.1[l0]? = some (.inr 10)) : xm_E X P d co_X11_fault 0 [some (.ref l0), some (.int l1)] [] h (some (.int (h.1 l0 13))) h := by
  refine xm_E_s r_X11_fault_0 rfl rfl ?_
  refine xm_E_s r_X11_fault_1 rfl rfl ?_
  refine xm_E_f q0 ?_
  refine xm_E_s r_X11_fault_5 rfl rfl ?_
  refine xm_E_s r_X11_fault_6 rfl rfl ?_
  refine xm_E_s r_X11_fault_7 rfl rfl ?_
  refine xm_E_t q1 ?_
  refine xm_E_s r_X11_fault_8 rfl rfl ?_
  refine xm_E_s r_X11_fault_9 rfl (xm_T_gi rfl q2 rfl (Or.inl rfl)) ?_
  refine xm_E_s r_X11_fault_10 rfl rfl ?_
  exact xm_E_iret r_X11_fault_12 rfl rfl
theorem p_X11_fault_0_2 {X : xm_X} {P : List xm_M} {d : Nat} {h : xm_H} {l0 : Nat} {l1 : Int32} (q0 : ¬ (l1 = (0 : Int32))) (q1 : ¬ (l1 = (1 : Int32))) : xm_E X P d co_X11_fault 0 [some (.ref l0), some (.int l1)] [] h (some (.int (-1 : Int32))) h := by
  refine xm_E_s r_X11_fault_0 rfl rfl ?_
  refine xm_E_s r_X11_fault_1 rfl rfl ?_
  refine xm_E_f q0 ?_
  refine xm_E_s r_X11_fault_5 rfl rfl ?_
  refine xm_E_s r_X11_fault_6 rfl rfl ?_
  refine xm_E_s r_X11_fault_7 rfl rfl ?_
  refine xm_E_f q1 ?_
  refine xm_E_s r_X11_fault_11 rfl rfl ?_
  exact xm_E_iret r_X11_fault_12 rfl rfl
theorem r_X11_linen_0 : co_X11_linen[0]? = some ((0, .aload_n 0, 0, 0, 0, 0, 0, 0, []) : xm_I) := rfl
theorem r_X11_linen_1 : co_X11_linen[1]? = some ((1, .aload_n 0, 0, 0, 0, 0, 0, 0, []) : xm_I) := rfl
theorem r_X11_linen_2 : co_X11_linen[2]? = some ((2, .getfield 88, 1385, 10, 5, 0, 0, 0, []) : xm_I) := rfl
theorem r_X11_linen_3 : co_X11_linen[3]? = some ((5, .putfield 91, 1387, 10, 7, 0, 0, 0, []) : xm_I) := rfl
theorem r_X11_linen_4 : co_X11_linen[4]? = some ((8, .aload_n 0, 0, 0, 0, 0, 0, 0, []) : xm_I) := rfl
theorem r_X11_linen_5 : co_X11_linen[5]? = some ((9, .iconst 0, 0, 0, 0, 0, 0, 0, []) : xm_I) := rfl
theorem r_X11_linen_6 : co_X11_linen[6]? = some ((10, .putfield 88, 1385, 10, 5, 0, 0, 0, []) : xm_I) := rfl
theorem r_X11_linen_7 : co_X11_linen[7]? = some ((13, .aload_n 0, 0, 0, 0, 0, 0, 0, []) : xm_I) := rfl
theorem r_X11_linen_8 : co_X11_linen[8]? = some ((14, .iconst 0, 0, 0, 0, 0, 0, 0, []) : xm_I) := rfl
theorem r_X11_linen_9 : co_X11_linen[9]? = some ((15, .putfield 94, 1388, 10, 8, 0, 0, 0, []) : xm_I) := rfl
theorem r_X11_linen_10 : co_X11_linen[10]? = some ((18, .aload_n 0, 0, 0, 0, 0, 0, 0, []) : xm_I) := rfl
theorem r_X11_linen_11 : co_X11_linen[11]? = some ((19, .iconst 0, 0, 0, 0, 0, 0, 0, []) : xm_I) := rfl
theorem r_X11_linen_12 : co_X11_linen[12]? = some ((20, .putfield 125, 1392, 10, 12, 0, 0, 0, []) : xm_I) := rfl
theorem r_X11_linen_13 : co_X11_linen[13]? = some ((23, .aload_n 0, 0, 0, 0, 0, 0, 0, []) : xm_I) := rfl
theorem r_X11_linen_14 : co_X11_linen[14]? = some ((24, .iconst (-1), 0, 0, 0, 0, (-1), 0, []) : xm_I) := rfl
theorem r_X11_linen_15 : co_X11_linen[15]? = some ((25, .putfield 27, 1393, 10, 13, 0, 0, 0, []) : xm_I) := rfl
theorem r_X11_linen_16 : co_X11_linen[16]? = some ((28, .iconst 0, 0, 0, 0, 0, 0, 0, []) : xm_I) := rfl
theorem r_X11_linen_17 : co_X11_linen[17]? = some ((29, .istore_n 1, 0, 0, 0, 0, 0, 0, []) : xm_I) := rfl
theorem r_X11_linen_18 : co_X11_linen[18]? = some ((30, .iload_n 1, 0, 0, 0, 0, 0, 0, []) : xm_I) := rfl
theorem r_X11_linen_19 : co_X11_linen[19]? = some ((31, .bipush 110, 0, 0, 0, 0, 110, 0, []) : xm_I) := rfl
theorem r_X11_linen_20 : co_X11_linen[20]? = some ((33, .if_icmp .ge 16, 0, 0, 28, 0, 0, 0, []) : xm_I) := rfl
theorem r_X11_linen_21 : co_X11_linen[21]? = some ((36, .aload_n 0, 0, 0, 0, 0, 0, 0, []) : xm_I) := rfl
theorem r_X11_linen_22 : co_X11_linen[22]? = some ((37, .getfield 31, 1394, 10, 14, 2, 0, 0, []) : xm_I) := rfl
theorem r_X11_linen_23 : co_X11_linen[23]? = some ((40, .iload_n 1, 0, 0, 0, 0, 0, 0, []) : xm_I) := rfl
theorem r_X11_linen_24 : co_X11_linen[24]? = some ((41, .iconst 0, 0, 0, 0, 0, 0, 0, []) : xm_I) := rfl
theorem r_X11_linen_25 : co_X11_linen[25]? = some ((42, .iastore, 0, 0, 0, 0, 0, 0, []) : xm_I) := rfl
theorem r_X11_linen_26 : co_X11_linen[26]? = some ((43, .iinc 1 1, 0, 0, 0, 0, 1, 0, []) : xm_I) := rfl
theorem r_X11_linen_27 : co_X11_linen[27]? = some ((46, .goto (-16), 0, 0, 18, 0, 0, 0, []) : xm_I) := rfl
theorem r_X11_linen_28 : co_X11_linen[28]? = some ((49, .aload_n 0, 0, 0, 0, 0, 0, 0, []) : xm_I) := rfl
theorem r_X11_linen_29 : co_X11_linen[29]? = some ((50, .invokevirtual 146, 1526, 197, 1, 10, 0, 0, []) : xm_I) := rfl
theorem r_X11_linen_30 : co_X11_linen[30]? = some ((53, .aload_n 0, 0, 0, 0, 0, 0, 0, []) : xm_I) := rfl
theorem r_X11_linen_31 : co_X11_linen[31]? = some ((54, .invokevirtual 128, 1540, 199, 1, 10, 0, 0, []) : xm_I) := rfl
theorem r_X11_linen_32 : co_X11_linen[32]? = some ((57, .ifCond .eq 17, 0, 0, 39, 0, 0, 0, []) : xm_I) := rfl
theorem r_X11_linen_33 : co_X11_linen[33]? = some ((60, .aload_n 0, 0, 0, 0, 0, 0, 0, []) : xm_I) := rfl
theorem r_X11_linen_34 : co_X11_linen[34]? = some ((61, .getfield 104, 1390, 10, 10, 0, 0, 0, []) : xm_I) := rfl
theorem r_X11_linen_35 : co_X11_linen[35]? = some ((64, .ifCond .eq 10, 0, 0, 39, 0, 0, 0, []) : xm_I) := rfl
theorem r_X11_linen_36 : co_X11_linen[36]? = some ((67, .aload_n 0, 0, 0, 0, 0, 0, 0, []) : xm_I) := rfl
theorem r_X11_linen_37 : co_X11_linen[37]? = some ((68, .invokevirtual 254, 1544, 200, 1, 10, 0, 0, []) : xm_I) := rfl
theorem r_X11_linen_38 : co_X11_linen[38]? = some ((71, .goto (-18), 0, 0, 30, 0, 0, 0, []) : xm_I) := rfl
theorem r_X11_linen_39 : co_X11_linen[39]? = some ((74, .aload_n 0, 0, 0, 0, 0, 0, 0, []) : xm_I) := rfl
theorem r_X11_linen_40 : co_X11_linen[40]? = some ((75, .invokevirtual 128, 1540, 199, 1, 10, 0, 0, []) : xm_I) := rfl
theorem r_X11_linen_41 : co_X11_linen[41]? = some ((78, .ifCond .ne 6, 0, 0, 44, 0, 0, 0, []) : xm_I) := rfl
theorem r_X11_linen_42 : co_X11_linen[42]? = some ((81, .bipush (-4), 0, 0, 0, 0, (-4), 0, []) : xm_I) := rfl
theorem r_X11_linen_43 : co_X11_linen[43]? = some ((83, .ireturn, 0, 0, 0, 0, 0, 0, []) : xm_I) := rfl
theorem r_X11_linen_44 : co_X11_linen[44]? = some ((84, .iconst 0, 0, 0, 0, 0, 0, 0, []) : xm_I) := rfl
theorem r_X11_linen_45 : co_X11_linen[45]? = some ((85, .istore_n 1, 0, 0, 0, 0, 0, 0, []) : xm_I) := rfl
theorem r_X11_linen_46 : co_X11_linen[46]? = some ((86, .iload_n 1, 0, 0, 0, 0, 0, 0, []) : xm_I) := rfl
theorem r_X11_linen_47 : co_X11_linen[47]? = some ((87, .bipush 110, 0, 0, 0, 0, 110, 0, []) : xm_I) := rfl
theorem r_X11_linen_48 : co_X11_linen[48]? = some ((89, .if_icmp .ge 21, 0, 0, 59, 0, 0, 0, []) : xm_I) := rfl
theorem r_X11_linen_49 : co_X11_linen[49]? = some ((92, .aload_n 0, 0, 0, 0, 0, 0, 0, []) : xm_I) := rfl
theorem r_X11_linen_50 : co_X11_linen[50]? = some ((93, .getfield 9, 1381, 10, 1, 2, 0, 0, []) : xm_I) := rfl
theorem r_X11_linen_51 : co_X11_linen[51]? = some ((96, .iload_n 1, 0, 0, 0, 0, 0, 0, []) : xm_I) := rfl
theorem r_X11_linen_52 : co_X11_linen[52]? = some ((97, .aload_n 0, 0, 0, 0, 0, 0, 0, []) : xm_I) := rfl
theorem r_X11_linen_53 : co_X11_linen[53]? = some ((98, .getfield 31, 1394, 10, 14, 2, 0, 0, []) : xm_I) := rfl
theorem r_X11_linen_54 : co_X11_linen[54]? = some ((101, .iload_n 1, 0, 0, 0, 0, 0, 0, []) : xm_I) := rfl
theorem r_X11_linen_55 : co_X11_linen[55]? = some ((102, .iaload, 0, 0, 0, 0, 0, 0, []) : xm_I) := rfl
theorem r_X11_linen_56 : co_X11_linen[56]? = some ((103, .iastore, 0, 0, 0, 0, 0, 0, []) : xm_I) := rfl
theorem r_X11_linen_57 : co_X11_linen[57]? = some ((104, .iinc 1 1, 0, 0, 0, 0, 1, 0, []) : xm_I) := rfl
theorem r_X11_linen_58 : co_X11_linen[58]? = some ((107, .goto (-21), 0, 0, 46, 0, 0, 0, []) : xm_I) := rfl
theorem r_X11_linen_59 : co_X11_linen[59]? = some ((110, .aload_n 0, 0, 0, 0, 0, 0, 0, []) : xm_I) := rfl
theorem r_X11_linen_60 : co_X11_linen[60]? = some ((111, .getfield 9, 1381, 10, 1, 2, 0, 0, []) : xm_I) := rfl
theorem r_X11_linen_61 : co_X11_linen[61]? = some ((114, .bipush 22, 0, 0, 0, 0, 22, 0, []) : xm_I) := rfl
theorem r_X11_linen_62 : co_X11_linen[62]? = some ((116, .iaload, 0, 0, 0, 0, 0, 0, []) : xm_I) := rfl
theorem r_X11_linen_63 : co_X11_linen[63]? = some ((117, .ireturn, 0, 0, 0, 0, 0, 0, []) : xm_I) := rfl
theorem p_X11_linen_0_0 {X : xm_X} {P : List xm_M} {d : Nat} {h : xm_H} {l0 : Nat} {ro : Option Value} {ho : xm_H} (q0 : X.1[l0]? = some (.inr 10)) (K : xm_E X P d co_X11_linen 18 [some (.ref l0), some (.int (0 : Int32))] [] (xm_si (xm_si (xm_si (xm_si (xm_si h l0 7 (h.1 l0 5)) l0 5 (0 : Int32)) l0 8 (0 : Int32)) l0 12 (0 : Int32)) l0 13 (-1 : Int32)) ro ho) : xm_E X P d co_X11_linen 0 [some (.ref l0), none] [] h ro ho := by
  refine xm_E_s r_X11_linen_0 rfl rfl ?_
  refine xm_E_s r_X11_linen_1 rfl rfl ?_
  refine xm_E_s r_X11_linen_2 rfl (xm_T_gi rfl q0 rfl (Or.inl rfl)) ?_
  refine xm_E_s r_X11_linen_3 rfl (xm_T_pi rfl q0 rfl rfl) ?_
  refine xm_E_s r_X11_linen_4 rfl rfl ?_
  refine xm_E_s r_X11_linen_5 rfl rfl ?_
  refine xm_E_s r_X11_linen_6 rfl (xm_T_pi rfl q0 rfl rfl) ?_
  refine xm_E_s r_X11_linen_7 rfl rfl ?_
  refine xm_E_s r_X11_linen_8 rfl rfl ?_
  refine xm_E_s r_X11_linen_9 rfl (xm_T_pi rfl q0 rfl rfl) ?_
  refine xm_E_s r_X11_linen_10 rfl rfl ?_
  refine xm_E_s r_X11_linen_11 rfl rfl ?_
  refine xm_E_s r_X11_linen_12 rfl (xm_T_pi rfl q0 rfl rfl) ?_
  refine xm_E_s r_X11_linen_13 rfl rfl ?_
  refine xm_E_s r_X11_linen_14 rfl rfl ?_
  refine xm_E_s r_X11_linen_15 rfl (xm_T_pi rfl q0 rfl rfl) ?_
  refine xm_E_s r_X11_linen_16 rfl rfl ?_
  refine xm_E_s (ls1 := [some (.ref l0), some (.int (0 : Int32))]) r_X11_linen_17 rfl rfl ?_
  exact K
theorem p_X11_linen_18_0 {X : xm_X} {P : List xm_M} {d : Nat} {h : xm_H} {l0 : Nat} {l1 : Int32} {h0 : xm_H} {ro : Option Value} {ho : xm_H} (q0 : (110 : Int32) ≤ l1) (q1 : xm_V X P d 197 [.ref l0] h none h0) (q2 : X.1[l0]? = some (.inr 10)) (K : xm_E X P d co_X11_linen 30 [some (.ref l0), some (.int l1)] [] h0 ro ho) : xm_E X P d co_X11_linen 18 [some (.ref l0), some (.int l1)] [] h ro ho := by
  refine xm_E_s r_X11_linen_18 rfl rfl ?_
  refine xm_E_s r_X11_linen_19 rfl rfl ?_
  refine xm_E_s r_X11_linen_20 rfl rfl ?_
  refine xm_E_t q0 ?_
  refine xm_E_s r_X11_linen_28 rfl rfl ?_
  refine xm_E_cv [.ref l0] [] r_X11_linen_29 rfl rfl (Nat.le_of_ble_eq_true rfl) (xm_rc q2 (by decide)) rfl q1 ?_
  exact K
theorem p_X11_linen_18_1 {X : xm_X} {P : List xm_M} {d : Nat} {h : xm_H} {l0 : Nat} {l1 : Int32} {v0 : Nat} {n1 : Nat} {ro : Option Value} {ho : xm_H} (q0 : ¬ ((110 : Int32) ≤ l1)) (q1 : X.1[l0]? = some (.inr 10)) (q2 : h.2.2 l0 14 = some v0) (q3 : X.1[v0]? = some (.inl (0, n1))) (q4 : ¬ (l1 < 0 ∨ n1 ≤ l1.toNatClampNeg)) (K : xm_E X P d co_X11_linen 18 [some (.ref l0), some (.int (l1 + (1 : Int32)))] [] (xm_si h v0 l1.toNatClampNeg (0 : Int32)) ro ho) : xm_E X P d co_X11_linen 18 [some (.ref l0), some (.int l1)] [] h ro ho := by
  refine xm_E_s r_X11_linen_18 rfl rfl ?_
  refine xm_E_s r_X11_linen_19 rfl rfl ?_
  refine xm_E_s r_X11_linen_20 rfl rfl ?_
  refine xm_E_f q0 ?_
  refine xm_E_s r_X11_linen_21 rfl rfl ?_
  refine xm_E_s r_X11_linen_22 rfl (xm_T_gr rfl q1 rfl rfl q2) ?_
  refine xm_E_s r_X11_linen_23 rfl rfl ?_
  refine xm_E_s r_X11_linen_24 rfl rfl ?_
  refine xm_E_s r_X11_linen_25 rfl (xm_T_asi rfl q3 q4) ?_
  refine xm_E_s (ls1 := [some (.ref l0), some (.int (l1 + (1 : Int32)))]) r_X11_linen_26 rfl rfl ?_
  refine xm_E_s r_X11_linen_27 rfl rfl ?_
  exact K
theorem p_X11_linen_30_0 {X : xm_X} {P : List xm_M} {d : Nat} {h : xm_H} {l0 : Nat} {l1 : Int32} {h0 : xm_H} {r0 : Int32} {h1 : xm_H} {r1 : Int32} (q0 : xm_V X P d 199 [.ref l0] h (some (.int r0)) h0) (q1 : X.1[l0]? = some (.inr 10)) (q2 : r0 = (0 : Int32)) (q3 : xm_V X P d 199 [.ref l0] h0 (some (.int r1)) h1) (q4 : r1 = (0 : Int32)) : xm_E X P d co_X11_linen 30 [some (.ref l0), some (.int l1)] [] h (some (.int (-4 : Int32))) h1 := by
  refine xm_E_s r_X11_linen_30 rfl rfl ?_
  refine xm_E_cv [.ref l0] [] r_X11_linen_31 rfl rfl (Nat.le_of_ble_eq_true rfl) (xm_rc q1 (by decide)) rfl q0 ?_
  refine xm_E_s r_X11_linen_32 rfl rfl ?_
  refine xm_E_t q2 ?_
  refine xm_E_s r_X11_linen_39 rfl rfl ?_
  refine xm_E_cv [.ref l0] [] r_X11_linen_40 rfl rfl (Nat.le_of_ble_eq_true rfl) (xm_rc q1 (by decide)) rfl q3 ?_
  refine xm_E_s r_X11_linen_41 rfl rfl ?_
  refine xm_E_t q4 ?_
  refine xm_E_s r_X11_linen_42 rfl rfl ?_
  exact xm_E_iret r_X11_linen_43 rfl rfl
theorem p_X11_linen_30_1 {X : xm_X} {P : List xm_M} {d : Nat} {h : xm_H} {l0 : Nat} {l1 : Int32} {h0 : xm_H} {r0 : Int32} {h1 : xm_H} {r1 : Int32} {ro : Option Value} {ho : xm_H} (q0 : xm_V X P d 199 [.ref l0] h (some (.int r0)) h0) (q1 : X.1[l0]? = some (.inr 10)) (q2 : r0 = (0 : Int32)) (q3 : xm_V X P d 199 [.ref l0] h0 (some (.int r1)) h1) (q4 : ¬ (r1 = (0 : Int32))) (K : xm_E X P d co_X11_linen 46 [some (.ref l0), some (.int (0 : Int32))] [] h1 ro ho) : xm_E X P d co_X11_linen 30 [some (.ref l0), some (.int l1)] [] h ro ho := by
  refine xm_E_s r_X11_linen_30 rfl rfl ?_
  refine xm_E_cv [.ref l0] [] r_X11_linen_31 rfl rfl (Nat.le_of_ble_eq_true rfl) (xm_rc q1 (by decide)) rfl q0 ?_
  refine xm_E_s r_X11_linen_32 rfl rfl ?_
  refine xm_E_t q2 ?_
  refine xm_E_s r_X11_linen_39 rfl rfl ?_
  refine xm_E_cv [.ref l0] [] r_X11_linen_40 rfl rfl (Nat.le_of_ble_eq_true rfl) (xm_rc q1 (by decide)) rfl q3 ?_
  refine xm_E_s r_X11_linen_41 rfl rfl ?_
  refine xm_E_f q4 ?_
  refine xm_E_s r_X11_linen_44 rfl rfl ?_
  refine xm_E_s (ls1 := [some (.ref l0), some (.int (0 : Int32))]) r_X11_linen_45 rfl rfl ?_
  exact K
theorem p_X11_linen_30_2 {X : xm_X} {P : List xm_M} {d : Nat} {h : xm_H} {l0 : Nat} {l1 : Int32} {h0 : xm_H} {r0 : Int32} {h1 : xm_H} {r1 : Int32} (q0 : xm_V X P d 199 [.ref l0] h (some (.int r0)) h0) (q1 : X.1[l0]? = some (.inr 10)) (q2 : ¬ (r0 = (0 : Int32))) (q3 : h0.1 l0 10 = (0 : Int32)) (q4 : xm_V X P d 199 [.ref l0] h0 (some (.int r1)) h1) (q5 : r1 = (0 : Int32)) : xm_E X P d co_X11_linen 30 [some (.ref l0), some (.int l1)] [] h (some (.int (-4 : Int32))) h1 := by
  refine xm_E_s r_X11_linen_30 rfl rfl ?_
  refine xm_E_cv [.ref l0] [] r_X11_linen_31 rfl rfl (Nat.le_of_ble_eq_true rfl) (xm_rc q1 (by decide)) rfl q0 ?_
  refine xm_E_s r_X11_linen_32 rfl rfl ?_
  refine xm_E_f q2 ?_
  refine xm_E_s r_X11_linen_33 rfl rfl ?_
  refine xm_E_s r_X11_linen_34 rfl (xm_T_gi rfl q1 rfl (Or.inl rfl)) ?_
  refine xm_E_s r_X11_linen_35 rfl rfl ?_
  refine xm_E_t q3 ?_
  refine xm_E_s r_X11_linen_39 rfl rfl ?_
  refine xm_E_cv [.ref l0] [] r_X11_linen_40 rfl rfl (Nat.le_of_ble_eq_true rfl) (xm_rc q1 (by decide)) rfl q4 ?_
  refine xm_E_s r_X11_linen_41 rfl rfl ?_
  refine xm_E_t q5 ?_
  refine xm_E_s r_X11_linen_42 rfl rfl ?_
  exact xm_E_iret r_X11_linen_43 rfl rfl
theorem p_X11_linen_30_3 {X : xm_X} {P : List xm_M} {d : Nat} {h : xm_H} {l0 : Nat} {l1 : Int32} {h0 : xm_H} {r0 : Int32} {h1 : xm_H} {r1 : Int32} {ro : Option Value} {ho : xm_H} (q0 : xm_V X P d 199 [.ref l0] h (some (.int r0)) h0) (q1 : X.1[l0]? = some (.inr 10)) (q2 : ¬ (r0 = (0 : Int32))) (q3 : h0.1 l0 10 = (0 : Int32)) (q4 : xm_V X P d 199 [.ref l0] h0 (some (.int r1)) h1) (q5 : ¬ (r1 = (0 : Int32))) (K : xm_E X P d co_X11_linen 46 [some (.ref l0), some (.int (0 : Int32))] [] h1 ro ho) : xm_E X P d co_X11_linen 30 [some (.ref l0), some (.int l1)] [] h ro ho := by
  refine xm_E_s r_X11_linen_30 rfl rfl ?_
  refine xm_E_cv [.ref l0] [] r_X11_linen_31 rfl rfl (Nat.le_of_ble_eq_true rfl) (xm_rc q1 (by decide)) rfl q0 ?_
  refine xm_E_s r_X11_linen_32 rfl rfl ?_
  refine xm_E_f q2 ?_
  refine xm_E_s r_X11_linen_33 rfl rfl ?_
  refine xm_E_s r_X11_linen_34 rfl (xm_T_gi rfl q1 rfl (Or.inl rfl)) ?_
  refine xm_E_s r_X11_linen_35 rfl rfl ?_
  refine xm_E_t q3 ?_
  refine xm_E_s r_X11_linen_39 rfl rfl ?_
  refine xm_E_cv [.ref l0] [] r_X11_linen_40 rfl rfl (Nat.le_of_ble_eq_true rfl) (xm_rc q1 (by decide)) rfl q4 ?_
  refine xm_E_s r_X11_linen_41 rfl rfl ?_
  refine xm_E_f q5 ?_
  refine xm_E_s r_X11_linen_44 rfl rfl ?_
  refine xm_E_s (ls1 := [some (.ref l0), some (.int (0 : Int32))]) r_X11_linen_45 rfl rfl ?_
  exact K
theorem p_X11_linen_30_4 {X : xm_X} {P : List xm_M} {d : Nat} {h : xm_H} {l0 : Nat} {l1 : Int32} {h0 : xm_H} {r0 : Int32} {h1 : xm_H} {ro : Option Value} {ho : xm_H} (q0 : xm_V X P d 199 [.ref l0] h (some (.int r0)) h0) (q1 : X.1[l0]? = some (.inr 10)) (q2 : ¬ (r0 = (0 : Int32))) (q3 : ¬ (h0.1 l0 10 = (0 : Int32))) (q4 : xm_V X P d 200 [.ref l0] h0 none h1) (K : xm_E X P d co_X11_linen 30 [some (.ref l0), some (.int l1)] [] h1 ro ho) : xm_E X P d co_X11_linen 30 [some (.ref l0), some (.int l1)] [] h ro ho := by
  refine xm_E_s r_X11_linen_30 rfl rfl ?_
  refine xm_E_cv [.ref l0] [] r_X11_linen_31 rfl rfl (Nat.le_of_ble_eq_true rfl) (xm_rc q1 (by decide)) rfl q0 ?_
  refine xm_E_s r_X11_linen_32 rfl rfl ?_
  refine xm_E_f q2 ?_
  refine xm_E_s r_X11_linen_33 rfl rfl ?_
  refine xm_E_s r_X11_linen_34 rfl (xm_T_gi rfl q1 rfl (Or.inl rfl)) ?_
  refine xm_E_s r_X11_linen_35 rfl rfl ?_
  refine xm_E_f q3 ?_
  refine xm_E_s r_X11_linen_36 rfl rfl ?_
  refine xm_E_cv [.ref l0] [] r_X11_linen_37 rfl rfl (Nat.le_of_ble_eq_true rfl) (xm_rc q1 (by decide)) rfl q4 ?_
  refine xm_E_s r_X11_linen_38 rfl rfl ?_
  exact K
theorem p_X11_linen_46_0 {X : xm_X} {P : List xm_M} {d : Nat} {h : xm_H} {l0 : Nat} {l1 : Int32} {v0 : Nat} {n1 : Nat} (q0 : (110 : Int32) ≤ l1) (q1 : X.1[l0]? = some (.inr 10)) (q2 : h.2.2 l0 1 = some v0) (q3 : X.1[v0]? = some (.inl (0, n1))) (q4 : 22 < n1) : xm_E X P d co_X11_linen 46 [some (.ref l0), some (.int l1)] [] h (some (.int (h.1 v0 22))) h := by
  refine xm_E_s r_X11_linen_46 rfl rfl ?_
  refine xm_E_s r_X11_linen_47 rfl rfl ?_
  refine xm_E_s r_X11_linen_48 rfl rfl ?_
  refine xm_E_t q0 ?_
  refine xm_E_s r_X11_linen_59 rfl rfl ?_
  refine xm_E_s r_X11_linen_60 rfl (xm_T_gr rfl q1 rfl rfl q2) ?_
  refine xm_E_s r_X11_linen_61 rfl rfl ?_
  refine xm_E_s r_X11_linen_62 rfl (xm_T_iald rfl q3 (by decide) (fun e => e.elim (fun e => absurd e (by decide)) (fun e => Nat.not_le.mpr q4 e))) ?_
  exact xm_E_iret r_X11_linen_63 rfl rfl
theorem p_X11_linen_46_1 {X : xm_X} {P : List xm_M} {d : Nat} {h : xm_H} {l0 : Nat} {l1 : Int32} {v0 : Nat} {v1 : Nat} {n2 : Nat} {n3 : Nat} {ro : Option Value} {ho : xm_H} (q0 : ¬ ((110 : Int32) ≤ l1)) (q1 : X.1[l0]? = some (.inr 10)) (q2 : h.2.2 l0 1 = some v0) (q3 : h.2.2 l0 14 = some v1) (q4 : X.1[v1]? = some (.inl (0, n2))) (q5 : ¬ (l1 < 0 ∨ n2 ≤ l1.toNatClampNeg)) (q6 : X.1[v0]? = some (.inl (0, n3))) (q7 : ¬ (l1 < 0 ∨ n3 ≤ l1.toNatClampNeg)) (K : xm_E X P d co_X11_linen 46 [some (.ref l0), some (.int (l1 + (1 : Int32)))] [] (xm_si h v0 l1.toNatClampNeg (h.1 v1 l1.toNatClampNeg)) ro ho) : xm_E X P d co_X11_linen 46 [some (.ref l0), some (.int l1)] [] h ro ho := by
  refine xm_E_s r_X11_linen_46 rfl rfl ?_
  refine xm_E_s r_X11_linen_47 rfl rfl ?_
  refine xm_E_s r_X11_linen_48 rfl rfl ?_
  refine xm_E_f q0 ?_
  refine xm_E_s r_X11_linen_49 rfl rfl ?_
  refine xm_E_s r_X11_linen_50 rfl (xm_T_gr rfl q1 rfl rfl q2) ?_
  refine xm_E_s r_X11_linen_51 rfl rfl ?_
  refine xm_E_s r_X11_linen_52 rfl rfl ?_
  refine xm_E_s r_X11_linen_53 rfl (xm_T_gr rfl q1 rfl rfl q3) ?_
  refine xm_E_s r_X11_linen_54 rfl rfl ?_
  refine xm_E_s r_X11_linen_55 rfl (xm_T_iald rfl q4 (by decide) q5) ?_
  refine xm_E_s r_X11_linen_56 rfl (xm_T_asi rfl q6 q7) ?_
  refine xm_E_s (ls1 := [some (.ref l0), some (.int (l1 + (1 : Int32)))]) r_X11_linen_57 rfl rfl ?_
  refine xm_E_s r_X11_linen_58 rfl rfl ?_
  exact K
theorem r_X11_advance_0 : co_X11_advance[0]? = some ((0, .aload_n 0, 0, 0, 0, 0, 0, 0, []) : xm_I) := rfl
theorem r_X11_advance_1 : co_X11_advance[1]? = some ((1, .aload_n 0, 0, 0, 0, 0, 0, 0, []) : xm_I) := rfl
theorem r_X11_advance_2 : co_X11_advance[2]? = some ((2, .getfield 94, 1388, 10, 8, 0, 0, 0, []) : xm_I) := rfl
theorem r_X11_advance_3 : co_X11_advance[3]? = some ((5, .invokevirtual 97, 1530, 198, 2, 10, 0, 0, []) : xm_I) := rfl
theorem r_X11_advance_4 : co_X11_advance[4]? = some ((8, .bipush 32, 0, 0, 0, 0, 32, 0, []) : xm_I) := rfl
theorem r_X11_advance_5 : co_X11_advance[5]? = some ((10, .if_icmp .eq 16, 0, 0, 12, 0, 0, 0, []) : xm_I) := rfl
theorem r_X11_advance_6 : co_X11_advance[6]? = some ((13, .aload_n 0, 0, 0, 0, 0, 0, 0, []) : xm_I) := rfl
theorem r_X11_advance_7 : co_X11_advance[7]? = some ((14, .aload_n 0, 0, 0, 0, 0, 0, 0, []) : xm_I) := rfl
theorem r_X11_advance_8 : co_X11_advance[8]? = some ((15, .getfield 94, 1388, 10, 8, 0, 0, 0, []) : xm_I) := rfl
theorem r_X11_advance_9 : co_X11_advance[9]? = some ((18, .invokevirtual 97, 1530, 198, 2, 10, 0, 0, []) : xm_I) := rfl
theorem r_X11_advance_10 : co_X11_advance[10]? = some ((21, .bipush 10, 0, 0, 0, 0, 10, 0, []) : xm_I) := rfl
theorem r_X11_advance_11 : co_X11_advance[11]? = some ((23, .if_icmp .ne 16, 0, 0, 19, 0, 0, 0, []) : xm_I) := rfl
theorem r_X11_advance_12 : co_X11_advance[12]? = some ((26, .aload_n 0, 0, 0, 0, 0, 0, 0, []) : xm_I) := rfl
theorem r_X11_advance_13 : co_X11_advance[13]? = some ((27, .dup, 0, 0, 0, 0, 0, 0, []) : xm_I) := rfl
theorem r_X11_advance_14 : co_X11_advance[14]? = some ((28, .getfield 94, 1388, 10, 8, 0, 0, 0, []) : xm_I) := rfl
theorem r_X11_advance_15 : co_X11_advance[15]? = some ((31, .iconst 1, 0, 0, 0, 0, 1, 0, []) : xm_I) := rfl
theorem r_X11_advance_16 : co_X11_advance[16]? = some ((32, .iadd, 0, 0, 0, 0, 0, 0, []) : xm_I) := rfl
theorem r_X11_advance_17 : co_X11_advance[17]? = some ((33, .putfield 94, 1388, 10, 8, 0, 0, 0, []) : xm_I) := rfl
theorem r_X11_advance_18 : co_X11_advance[18]? = some ((36, .goto (-36), 0, 0, 0, 0, 0, 0, []) : xm_I) := rfl
theorem r_X11_advance_19 : co_X11_advance[19]? = some ((39, .aload_n 0, 0, 0, 0, 0, 0, 0, []) : xm_I) := rfl
theorem r_X11_advance_20 : co_X11_advance[20]? = some ((40, .aload_n 0, 0, 0, 0, 0, 0, 0, []) : xm_I) := rfl
theorem r_X11_advance_21 : co_X11_advance[21]? = some ((41, .getfield 94, 1388, 10, 8, 0, 0, 0, []) : xm_I) := rfl
theorem r_X11_advance_22 : co_X11_advance[22]? = some ((44, .putfield 101, 1389, 10, 9, 0, 0, 0, []) : xm_I) := rfl
theorem r_X11_advance_23 : co_X11_advance[23]? = some ((47, .aload_n 0, 0, 0, 0, 0, 0, 0, []) : xm_I) := rfl
theorem r_X11_advance_24 : co_X11_advance[24]? = some ((48, .aload_n 0, 0, 0, 0, 0, 0, 0, []) : xm_I) := rfl
theorem r_X11_advance_25 : co_X11_advance[25]? = some ((49, .getfield 94, 1388, 10, 8, 0, 0, 0, []) : xm_I) := rfl
theorem r_X11_advance_26 : co_X11_advance[26]? = some ((52, .invokevirtual 97, 1530, 198, 2, 10, 0, 0, []) : xm_I) := rfl
theorem r_X11_advance_27 : co_X11_advance[27]? = some ((55, .istore_n 1, 0, 0, 0, 0, 0, 0, []) : xm_I) := rfl
theorem r_X11_advance_28 : co_X11_advance[28]? = some ((56, .iload_n 1, 0, 0, 0, 0, 0, 0, []) : xm_I) := rfl
theorem r_X11_advance_29 : co_X11_advance[29]? = some ((57, .iconst (-1), 0, 0, 0, 0, (-1), 0, []) : xm_I) := rfl
theorem r_X11_advance_30 : co_X11_advance[30]? = some ((58, .if_icmp .ne 11, 0, 0, 35, 0, 0, 0, []) : xm_I) := rfl
theorem r_X11_advance_31 : co_X11_advance[31]? = some ((61, .aload_n 0, 0, 0, 0, 0, 0, 0, []) : xm_I) := rfl
theorem r_X11_advance_32 : co_X11_advance[32]? = some ((62, .iconst 0, 0, 0, 0, 0, 0, 0, []) : xm_I) := rfl
theorem r_X11_advance_33 : co_X11_advance[33]? = some ((63, .putfield 104, 1390, 10, 10, 0, 0, 0, []) : xm_I) := rfl
theorem r_X11_advance_34 : co_X11_advance[34]? = some ((66, .goto 173, 0, 0, 119, 0, 0, 0, []) : xm_I) := rfl
theorem r_X11_advance_35 : co_X11_advance[35]? = some ((69, .iload_n 1, 0, 0, 0, 0, 0, 0, []) : xm_I) := rfl
theorem r_X11_advance_36 : co_X11_advance[36]? = some ((70, .i2l, 0, 0, 0, 0, 0, 0, []) : xm_I) := rfl
theorem r_X11_advance_37 : co_X11_advance[37]? = some ((71, .ldc2_w 107, 1534, 0, 0, 0, 0, 97, []) : xm_I) := rfl
theorem r_X11_advance_38 : co_X11_advance[38]? = some ((74, .ldc2_w 109, 1535, 0, 0, 0, 0, 122, []) : xm_I) := rfl
theorem r_X11_advance_39 : co_X11_advance[39]? = some ((77, .invokestatic 84, 1503, 191, 3, 0, 0, 0, []) : xm_I) := rfl
theorem r_X11_advance_40 : co_X11_advance[40]? = some ((80, .ifCond .eq 45, 0, 0, 61, 0, 0, 0, []) : xm_I) := rfl
theorem r_X11_advance_41 : co_X11_advance[41]? = some ((83, .aload_n 0, 0, 0, 0, 0, 0, 0, []) : xm_I) := rfl
theorem r_X11_advance_42 : co_X11_advance[42]? = some ((84, .aload_n 0, 0, 0, 0, 0, 0, 0, []) : xm_I) := rfl
theorem r_X11_advance_43 : co_X11_advance[43]? = some ((85, .getfield 94, 1388, 10, 8, 0, 0, 0, []) : xm_I) := rfl
theorem r_X11_advance_44 : co_X11_advance[44]? = some ((88, .invokevirtual 97, 1530, 198, 2, 10, 0, 0, []) : xm_I) := rfl
theorem r_X11_advance_45 : co_X11_advance[45]? = some ((91, .i2l, 0, 0, 0, 0, 0, 0, []) : xm_I) := rfl
theorem r_X11_advance_46 : co_X11_advance[46]? = some ((92, .ldc2_w 107, 1534, 0, 0, 0, 0, 97, []) : xm_I) := rfl
theorem r_X11_advance_47 : co_X11_advance[47]? = some ((95, .ldc2_w 109, 1535, 0, 0, 0, 0, 122, []) : xm_I) := rfl
theorem r_X11_advance_48 : co_X11_advance[48]? = some ((98, .invokestatic 84, 1503, 191, 3, 0, 0, 0, []) : xm_I) := rfl
theorem r_X11_advance_49 : co_X11_advance[49]? = some ((101, .ifCond .eq 16, 0, 0, 57, 0, 0, 0, []) : xm_I) := rfl
theorem r_X11_advance_50 : co_X11_advance[50]? = some ((104, .aload_n 0, 0, 0, 0, 0, 0, 0, []) : xm_I) := rfl
theorem r_X11_advance_51 : co_X11_advance[51]? = some ((105, .dup, 0, 0, 0, 0, 0, 0, []) : xm_I) := rfl
theorem r_X11_advance_52 : co_X11_advance[52]? = some ((106, .getfield 94, 1388, 10, 8, 0, 0, 0, []) : xm_I) := rfl
theorem r_X11_advance_53 : co_X11_advance[53]? = some ((109, .iconst 1, 0, 0, 0, 0, 1, 0, []) : xm_I) := rfl
theorem r_X11_advance_54 : co_X11_advance[54]? = some ((110, .iadd, 0, 0, 0, 0, 0, 0, []) : xm_I) := rfl
theorem r_X11_advance_55 : co_X11_advance[55]? = some ((111, .putfield 94, 1388, 10, 8, 0, 0, 0, []) : xm_I) := rfl
theorem r_X11_advance_56 : co_X11_advance[56]? = some ((114, .goto (-31), 0, 0, 41, 0, 0, 0, []) : xm_I) := rfl
theorem r_X11_advance_57 : co_X11_advance[57]? = some ((117, .aload_n 0, 0, 0, 0, 0, 0, 0, []) : xm_I) := rfl
theorem r_X11_advance_58 : co_X11_advance[58]? = some ((118, .iconst 1, 0, 0, 0, 0, 1, 0, []) : xm_I) := rfl
theorem r_X11_advance_59 : co_X11_advance[59]? = some ((119, .putfield 104, 1390, 10, 10, 0, 0, 0, []) : xm_I) := rfl
theorem r_X11_advance_60 : co_X11_advance[60]? = some ((122, .goto 117, 0, 0, 119, 0, 0, 0, []) : xm_I) := rfl
theorem r_X11_advance_61 : co_X11_advance[61]? = some ((125, .iload_n 1, 0, 0, 0, 0, 0, 0, []) : xm_I) := rfl
theorem r_X11_advance_62 : co_X11_advance[62]? = some ((126, .i2l, 0, 0, 0, 0, 0, 0, []) : xm_I) := rfl
theorem r_X11_advance_63 : co_X11_advance[63]? = some ((127, .ldc2_w 111, 1536, 0, 0, 0, 0, 48, []) : xm_I) := rfl
theorem r_X11_advance_64 : co_X11_advance[64]? = some ((130, .ldc2_w 113, 1537, 0, 0, 0, 0, 57, []) : xm_I) := rfl
theorem r_X11_advance_65 : co_X11_advance[65]? = some ((133, .invokestatic 84, 1503, 191, 3, 0, 0, 0, []) : xm_I) := rfl
theorem r_X11_advance_66 : co_X11_advance[66]? = some ((136, .ifCond .eq 78, 0, 0, 105, 0, 0, 0, []) : xm_I) := rfl
theorem r_X11_advance_67 : co_X11_advance[67]? = some ((139, .aload_n 0, 0, 0, 0, 0, 0, 0, []) : xm_I) := rfl
theorem r_X11_advance_68 : co_X11_advance[68]? = some ((140, .iconst 0, 0, 0, 0, 0, 0, 0, []) : xm_I) := rfl
theorem r_X11_advance_69 : co_X11_advance[69]? = some ((141, .putfield 115, 1391, 10, 11, 0, 0, 0, []) : xm_I) := rfl
theorem r_X11_advance_70 : co_X11_advance[70]? = some ((144, .aload_n 0, 0, 0, 0, 0, 0, 0, []) : xm_I) := rfl
theorem r_X11_advance_71 : co_X11_advance[71]? = some ((145, .aload_n 0, 0, 0, 0, 0, 0, 0, []) : xm_I) := rfl
theorem r_X11_advance_72 : co_X11_advance[72]? = some ((146, .getfield 94, 1388, 10, 8, 0, 0, 0, []) : xm_I) := rfl
theorem r_X11_advance_73 : co_X11_advance[73]? = some ((149, .invokevirtual 97, 1530, 198, 2, 10, 0, 0, []) : xm_I) := rfl
theorem r_X11_advance_74 : co_X11_advance[74]? = some ((152, .i2l, 0, 0, 0, 0, 0, 0, []) : xm_I) := rfl
theorem r_X11_advance_75 : co_X11_advance[75]? = some ((153, .ldc2_w 111, 1536, 0, 0, 0, 0, 48, []) : xm_I) := rfl
theorem r_X11_advance_76 : co_X11_advance[76]? = some ((156, .ldc2_w 113, 1537, 0, 0, 0, 0, 57, []) : xm_I) := rfl
theorem r_X11_advance_77 : co_X11_advance[77]? = some ((159, .invokestatic 84, 1503, 191, 3, 0, 0, 0, []) : xm_I) := rfl
theorem r_X11_advance_78 : co_X11_advance[78]? = some ((162, .ifCond .eq 44, 0, 0, 101, 0, 0, 0, []) : xm_I) := rfl
theorem r_X11_advance_79 : co_X11_advance[79]? = some ((165, .aload_n 0, 0, 0, 0, 0, 0, 0, []) : xm_I) := rfl
theorem r_X11_advance_80 : co_X11_advance[80]? = some ((166, .ldc 118, 1538, 0, 0, 0, 99999, 0, []) : xm_I) := rfl
theorem r_X11_advance_81 : co_X11_advance[81]? = some ((168, .bipush 10, 0, 0, 0, 0, 10, 0, []) : xm_I) := rfl
theorem r_X11_advance_82 : co_X11_advance[82]? = some ((170, .aload_n 0, 0, 0, 0, 0, 0, 0, []) : xm_I) := rfl
theorem r_X11_advance_83 : co_X11_advance[83]? = some ((171, .getfield 115, 1391, 10, 11, 0, 0, 0, []) : xm_I) := rfl
theorem r_X11_advance_84 : co_X11_advance[84]? = some ((174, .imul, 0, 0, 0, 0, 0, 0, []) : xm_I) := rfl
theorem r_X11_advance_85 : co_X11_advance[85]? = some ((175, .aload_n 0, 0, 0, 0, 0, 0, 0, []) : xm_I) := rfl
theorem r_X11_advance_86 : co_X11_advance[86]? = some ((176, .aload_n 0, 0, 0, 0, 0, 0, 0, []) : xm_I) := rfl
theorem r_X11_advance_87 : co_X11_advance[87]? = some ((177, .getfield 94, 1388, 10, 8, 0, 0, 0, []) : xm_I) := rfl
theorem r_X11_advance_88 : co_X11_advance[88]? = some ((180, .invokevirtual 97, 1530, 198, 2, 10, 0, 0, []) : xm_I) := rfl
theorem r_X11_advance_89 : co_X11_advance[89]? = some ((183, .iadd, 0, 0, 0, 0, 0, 0, []) : xm_I) := rfl
theorem r_X11_advance_90 : co_X11_advance[90]? = some ((184, .bipush 48, 0, 0, 0, 0, 48, 0, []) : xm_I) := rfl
theorem r_X11_advance_91 : co_X11_advance[91]? = some ((186, .isub, 0, 0, 0, 0, 0, 0, []) : xm_I) := rfl
theorem r_X11_advance_92 : co_X11_advance[92]? = some ((187, .invokestatic 119, 1539, 0, 0, 3, 0, 0, []) : xm_I) := rfl
theorem r_X11_advance_93 : co_X11_advance[93]? = some ((190, .putfield 115, 1391, 10, 11, 0, 0, 0, []) : xm_I) := rfl
theorem r_X11_advance_94 : co_X11_advance[94]? = some ((193, .aload_n 0, 0, 0, 0, 0, 0, 0, []) : xm_I) := rfl
theorem r_X11_advance_95 : co_X11_advance[95]? = some ((194, .dup, 0, 0, 0, 0, 0, 0, []) : xm_I) := rfl
theorem r_X11_advance_96 : co_X11_advance[96]? = some ((195, .getfield 94, 1388, 10, 8, 0, 0, 0, []) : xm_I) := rfl
theorem r_X11_advance_97 : co_X11_advance[97]? = some ((198, .iconst 1, 0, 0, 0, 0, 1, 0, []) : xm_I) := rfl
theorem r_X11_advance_98 : co_X11_advance[98]? = some ((199, .iadd, 0, 0, 0, 0, 0, 0, []) : xm_I) := rfl
theorem r_X11_advance_99 : co_X11_advance[99]? = some ((200, .putfield 94, 1388, 10, 8, 0, 0, 0, []) : xm_I) := rfl
theorem r_X11_advance_100 : co_X11_advance[100]? = some ((203, .goto (-59), 0, 0, 70, 0, 0, 0, []) : xm_I) := rfl
theorem r_X11_advance_101 : co_X11_advance[101]? = some ((206, .aload_n 0, 0, 0, 0, 0, 0, 0, []) : xm_I) := rfl
theorem r_X11_advance_102 : co_X11_advance[102]? = some ((207, .iconst 2, 0, 0, 0, 0, 2, 0, []) : xm_I) := rfl
theorem r_X11_advance_103 : co_X11_advance[103]? = some ((208, .putfield 104, 1390, 10, 10, 0, 0, 0, []) : xm_I) := rfl
theorem r_X11_advance_104 : co_X11_advance[104]? = some ((211, .goto 28, 0, 0, 119, 0, 0, 0, []) : xm_I) := rfl
theorem r_X11_advance_105 : co_X11_advance[105]? = some ((214, .aload_n 0, 0, 0, 0, 0, 0, 0, []) : xm_I) := rfl
theorem r_X11_advance_106 : co_X11_advance[106]? = some ((215, .iload_n 1, 0, 0, 0, 0, 0, 0, []) : xm_I) := rfl
theorem r_X11_advance_107 : co_X11_advance[107]? = some ((216, .bipush 59, 0, 0, 0, 0, 59, 0, []) : xm_I) := rfl
theorem r_X11_advance_108 : co_X11_advance[108]? = some ((218, .if_icmp .ne 7, 0, 0, 111, 0, 0, 0, []) : xm_I) := rfl
theorem r_X11_advance_109 : co_X11_advance[109]? = some ((221, .iconst 3, 0, 0, 0, 0, 3, 0, []) : xm_I) := rfl
theorem r_X11_advance_110 : co_X11_advance[110]? = some ((222, .goto 4, 0, 0, 112, 0, 0, 0, []) : xm_I) := rfl
theorem r_X11_advance_111 : co_X11_advance[111]? = some ((225, .iconst 4, 0, 0, 0, 0, 4, 0, []) : xm_I) := rfl
theorem r_X11_advance_112 : co_X11_advance[112]? = some ((226, .putfield 104, 1390, 10, 10, 0, 0, 0, []) : xm_I) := rfl
theorem r_X11_advance_113 : co_X11_advance[113]? = some ((229, .aload_n 0, 0, 0, 0, 0, 0, 0, []) : xm_I) := rfl
theorem r_X11_advance_114 : co_X11_advance[114]? = some ((230, .dup, 0, 0, 0, 0, 0, 0, []) : xm_I) := rfl
theorem r_X11_advance_115 : co_X11_advance[115]? = some ((231, .getfield 94, 1388, 10, 8, 0, 0, 0, []) : xm_I) := rfl
theorem r_X11_advance_116 : co_X11_advance[116]? = some ((234, .iconst 1, 0, 0, 0, 0, 1, 0, []) : xm_I) := rfl
theorem r_X11_advance_117 : co_X11_advance[117]? = some ((235, .iadd, 0, 0, 0, 0, 0, 0, []) : xm_I) := rfl
theorem r_X11_advance_118 : co_X11_advance[118]? = some ((236, .putfield 94, 1388, 10, 8, 0, 0, 0, []) : xm_I) := rfl
theorem r_X11_advance_119 : co_X11_advance[119]? = some ((239, .return_, 0, 0, 0, 0, 0, 0, []) : xm_I) := rfl
theorem p_X11_advance_0_0 {X : xm_X} {P : List xm_M} {d : Nat} {h : xm_H} {l0 : Nat} {h0 : xm_H} {r0 : Int32} {ro : Option Value} {ho : xm_H} (q0 : X.1[l0]? = some (.inr 10)) (q1 : xm_V X P d 198 [.ref l0, .int (h.1 l0 8)] h (some (.int r0)) h0) (q2 : r0 = (32 : Int32)) (K : xm_E X P d co_X11_advance 0 [some (.ref l0), none] [] (xm_si h0 l0 8 ((h0.1 l0 8) + (1 : Int32))) ro ho) : xm_E X P d co_X11_advance 0 [some (.ref l0), none] [] h ro ho := by
  refine xm_E_s r_X11_advance_0 rfl rfl ?_
  refine xm_E_s r_X11_advance_1 rfl rfl ?_
  refine xm_E_s r_X11_advance_2 rfl (xm_T_gi rfl q0 rfl (Or.inl rfl)) ?_
  refine xm_E_cv [.ref l0, .int (h.1 l0 8)] [] r_X11_advance_3 rfl rfl (Nat.le_of_ble_eq_true rfl) (xm_rc q0 (by decide)) rfl q1 ?_
  refine xm_E_s r_X11_advance_4 rfl rfl ?_
  refine xm_E_s r_X11_advance_5 rfl rfl ?_
  refine xm_E_t q2 ?_
  refine xm_E_s r_X11_advance_12 rfl rfl ?_
  refine xm_E_s r_X11_advance_13 rfl rfl ?_
  refine xm_E_s r_X11_advance_14 rfl (xm_T_gi rfl q0 rfl (Or.inl rfl)) ?_
  refine xm_E_s r_X11_advance_15 rfl rfl ?_
  refine xm_E_s r_X11_advance_16 rfl rfl ?_
  refine xm_E_s r_X11_advance_17 rfl (xm_T_pi rfl q0 rfl rfl) ?_
  refine xm_E_s r_X11_advance_18 rfl rfl ?_
  exact K
theorem p_X11_advance_0_1 {X : xm_X} {P : List xm_M} {d : Nat} {h : xm_H} {l0 : Nat} {h0 : xm_H} {r0 : Int32} {h1 : xm_H} {r1 : Int32} {ro : Option Value} {ho : xm_H} (q0 : X.1[l0]? = some (.inr 10)) (q1 : xm_V X P d 198 [.ref l0, .int (h.1 l0 8)] h (some (.int r0)) h0) (q2 : ¬ (r0 = (32 : Int32))) (q3 : xm_V X P d 198 [.ref l0, .int (h0.1 l0 8)] h0 (some (.int r1)) h1) (q4 : r1 = (10 : Int32)) (K : xm_E X P d co_X11_advance 0 [some (.ref l0), none] [] (xm_si h1 l0 8 ((h1.1 l0 8) + (1 : Int32))) ro ho) : xm_E X P d co_X11_advance 0 [some (.ref l0), none] [] h ro ho := by
  refine xm_E_s r_X11_advance_0 rfl rfl ?_
  refine xm_E_s r_X11_advance_1 rfl rfl ?_
  refine xm_E_s r_X11_advance_2 rfl (xm_T_gi rfl q0 rfl (Or.inl rfl)) ?_
  refine xm_E_cv [.ref l0, .int (h.1 l0 8)] [] r_X11_advance_3 rfl rfl (Nat.le_of_ble_eq_true rfl) (xm_rc q0 (by decide)) rfl q1 ?_
  refine xm_E_s r_X11_advance_4 rfl rfl ?_
  refine xm_E_s r_X11_advance_5 rfl rfl ?_
  refine xm_E_f q2 ?_
  refine xm_E_s r_X11_advance_6 rfl rfl ?_
  refine xm_E_s r_X11_advance_7 rfl rfl ?_
  refine xm_E_s r_X11_advance_8 rfl (xm_T_gi rfl q0 rfl (Or.inl rfl)) ?_
  refine xm_E_cv [.ref l0, .int (h0.1 l0 8)] [] r_X11_advance_9 rfl rfl (Nat.le_of_ble_eq_true rfl) (xm_rc q0 (by decide)) rfl q3 ?_
  refine xm_E_s r_X11_advance_10 rfl rfl ?_
  refine xm_E_s r_X11_advance_11 rfl rfl ?_
  refine xm_E_t q4 ?_
  refine xm_E_s r_X11_advance_12 rfl rfl ?_
  refine xm_E_s r_X11_advance_13 rfl rfl ?_
  refine xm_E_s r_X11_advance_14 rfl (xm_T_gi rfl q0 rfl (Or.inl rfl)) ?_
  refine xm_E_s r_X11_advance_15 rfl rfl ?_
  refine xm_E_s r_X11_advance_16 rfl rfl ?_
  refine xm_E_s r_X11_advance_17 rfl (xm_T_pi rfl q0 rfl rfl) ?_
  refine xm_E_s r_X11_advance_18 rfl rfl ?_
  exact K
theorem p_X11_advance_0_2 {X : xm_X} {P : List xm_M} {d : Nat} {h : xm_H} {l0 : Nat} {h0 : xm_H} {r0 : Int32} {h1 : xm_H} {r1 : Int32} {h2 : xm_H} {r2 : Int32} (q0 : X.1[l0]? = some (.inr 10)) (q1 : xm_V X P d 198 [.ref l0, .int (h.1 l0 8)] h (some (.int r0)) h0) (q2 : ¬ (r0 = (32 : Int32))) (q3 : xm_V X P d 198 [.ref l0, .int (h0.1 l0 8)] h0 (some (.int r1)) h1) (q4 : ¬ (r1 = (10 : Int32))) (q5 : xm_V X P d 198 [.ref l0, .int ((xm_si h1 l0 9 (h1.1 l0 8)).1 l0 8)] (xm_si h1 l0 9 (h1.1 l0 8)) (some (.int r2)) h2) (q6 : r2 = (-1 : Int32)) : xm_E X P d co_X11_advance 0 [some (.ref l0), none] [] h none (xm_si h2 l0 10 (0 : Int32)) := by
  refine xm_E_s r_X11_advance_0 rfl rfl ?_
  refine xm_E_s r_X11_advance_1 rfl rfl ?_
  refine xm_E_s r_X11_advance_2 rfl (xm_T_gi rfl q0 rfl (Or.inl rfl)) ?_
  refine xm_E_cv [.ref l0, .int (h.1 l0 8)] [] r_X11_advance_3 rfl rfl (Nat.le_of_ble_eq_true rfl) (xm_rc q0 (by decide)) rfl q1 ?_
  refine xm_E_s r_X11_advance_4 rfl rfl ?_
  refine xm_E_s r_X11_advance_5 rfl rfl ?_
  refine xm_E_f q2 ?_
  refine xm_E_s r_X11_advance_6 rfl rfl ?_
  refine xm_E_s r_X11_advance_7 rfl rfl ?_
  refine xm_E_s r_X11_advance_8 rfl (xm_T_gi rfl q0 rfl (Or.inl rfl)) ?_
  refine xm_E_cv [.ref l0, .int (h0.1 l0 8)] [] r_X11_advance_9 rfl rfl (Nat.le_of_ble_eq_true rfl) (xm_rc q0 (by decide)) rfl q3 ?_
  refine xm_E_s r_X11_advance_10 rfl rfl ?_
  refine xm_E_s r_X11_advance_11 rfl rfl ?_
  refine xm_E_f q4 ?_
  refine xm_E_s r_X11_advance_19 rfl rfl ?_
  refine xm_E_s r_X11_advance_20 rfl rfl ?_
  refine xm_E_s r_X11_advance_21 rfl (xm_T_gi rfl q0 rfl (Or.inl rfl)) ?_
  refine xm_E_s r_X11_advance_22 rfl (xm_T_pi rfl q0 rfl rfl) ?_
  refine xm_E_s r_X11_advance_23 rfl rfl ?_
  refine xm_E_s r_X11_advance_24 rfl rfl ?_
  refine xm_E_s r_X11_advance_25 rfl (xm_T_gi rfl q0 rfl (Or.inl rfl)) ?_
  refine xm_E_cv [.ref l0, .int ((xm_si h1 l0 9 (h1.1 l0 8)).1 l0 8)] [] r_X11_advance_26 rfl rfl (Nat.le_of_ble_eq_true rfl) (xm_rc q0 (by decide)) rfl q5 ?_
  refine xm_E_s (ls1 := [some (.ref l0), some (.int r2)]) r_X11_advance_27 rfl rfl ?_
  refine xm_E_s r_X11_advance_28 rfl rfl ?_
  refine xm_E_s r_X11_advance_29 rfl rfl ?_
  refine xm_E_s r_X11_advance_30 rfl rfl ?_
  refine xm_E_t q6 ?_
  refine xm_E_s r_X11_advance_31 rfl rfl ?_
  refine xm_E_s r_X11_advance_32 rfl rfl ?_
  refine xm_E_s r_X11_advance_33 rfl (xm_T_pi rfl q0 rfl rfl) ?_
  refine xm_E_s r_X11_advance_34 rfl rfl ?_
  exact xm_E_ret r_X11_advance_119 rfl
theorem p_X11_advance_0_3 {X : xm_X} {P : List xm_M} {d : Nat} {h : xm_H} {l0 : Nat} {h0 : xm_H} {r0 : Int32} {h1 : xm_H} {r1 : Int32} {h2 : xm_H} {r2 : Int32} {h3 : xm_H} {r3 : Int32} {h4 : xm_H} {r4 : Int32} (q0 : X.1[l0]? = some (.inr 10)) (q1 : xm_V X P d 198 [.ref l0, .int (h.1 l0 8)] h (some (.int r0)) h0) (q2 : ¬ (r0 = (32 : Int32))) (q3 : xm_V X P d 198 [.ref l0, .int (h0.1 l0 8)] h0 (some (.int r1)) h1) (q4 : ¬ (r1 = (10 : Int32))) (q5 : xm_V X P d 198 [.ref l0, .int ((xm_si h1 l0 9 (h1.1 l0 8)).1 l0 8)] (xm_si h1 l0 9 (h1.1 l0 8)) (some (.int r2)) h2) (q6 : ¬ (r2 = (-1 : Int32))) (q7 : xm_V X P d 191 [.long r2.toInt64, .long (97 : Int64), .long (122 : Int64)] h2 (some (.int r3)) h3) (q8 : r3 = (0 : Int32)) (q9 : xm_V X P d 191 [.long r2.toInt64, .long (48 : Int64), .long (57 : Int64)] h3 (some (.int r4)) h4) (q10 : r4 = (0 : Int32)) (q11 : r2 = (59 : Int32)) : xm_E X P d co_X11_advance 0 [some (.ref l0), none] [] h none (xm_si (xm_si h4 l0 10 (3 : Int32)) l0 8 (((xm_si h4 l0 10 (3 : Int32)).1 l0 8) + (1 : Int32))) := by
  refine xm_E_s r_X11_advance_0 rfl rfl ?_
  refine xm_E_s r_X11_advance_1 rfl rfl ?_
  refine xm_E_s r_X11_advance_2 rfl (xm_T_gi rfl q0 rfl (Or.inl rfl)) ?_
  refine xm_E_cv [.ref l0, .int (h.1 l0 8)] [] r_X11_advance_3 rfl rfl (Nat.le_of_ble_eq_true rfl) (xm_rc q0 (by decide)) rfl q1 ?_
  refine xm_E_s r_X11_advance_4 rfl rfl ?_
  refine xm_E_s r_X11_advance_5 rfl rfl ?_
  refine xm_E_f q2 ?_
  refine xm_E_s r_X11_advance_6 rfl rfl ?_
  refine xm_E_s r_X11_advance_7 rfl rfl ?_
  refine xm_E_s r_X11_advance_8 rfl (xm_T_gi rfl q0 rfl (Or.inl rfl)) ?_
  refine xm_E_cv [.ref l0, .int (h0.1 l0 8)] [] r_X11_advance_9 rfl rfl (Nat.le_of_ble_eq_true rfl) (xm_rc q0 (by decide)) rfl q3 ?_
  refine xm_E_s r_X11_advance_10 rfl rfl ?_
  refine xm_E_s r_X11_advance_11 rfl rfl ?_
  refine xm_E_f q4 ?_
  refine xm_E_s r_X11_advance_19 rfl rfl ?_
  refine xm_E_s r_X11_advance_20 rfl rfl ?_
  refine xm_E_s r_X11_advance_21 rfl (xm_T_gi rfl q0 rfl (Or.inl rfl)) ?_
  refine xm_E_s r_X11_advance_22 rfl (xm_T_pi rfl q0 rfl rfl) ?_
  refine xm_E_s r_X11_advance_23 rfl rfl ?_
  refine xm_E_s r_X11_advance_24 rfl rfl ?_
  refine xm_E_s r_X11_advance_25 rfl (xm_T_gi rfl q0 rfl (Or.inl rfl)) ?_
  refine xm_E_cv [.ref l0, .int ((xm_si h1 l0 9 (h1.1 l0 8)).1 l0 8)] [] r_X11_advance_26 rfl rfl (Nat.le_of_ble_eq_true rfl) (xm_rc q0 (by decide)) rfl q5 ?_
  refine xm_E_s (ls1 := [some (.ref l0), some (.int r2)]) r_X11_advance_27 rfl rfl ?_
  refine xm_E_s r_X11_advance_28 rfl rfl ?_
  refine xm_E_s r_X11_advance_29 rfl rfl ?_
  refine xm_E_s r_X11_advance_30 rfl rfl ?_
  refine xm_E_f q6 ?_
  refine xm_E_s r_X11_advance_35 rfl rfl ?_
  refine xm_E_s r_X11_advance_36 rfl rfl ?_
  refine xm_E_s r_X11_advance_37 rfl rfl ?_
  refine xm_E_s r_X11_advance_38 rfl rfl ?_
  refine xm_E_cs [.long r2.toInt64, .long (97 : Int64), .long (122 : Int64)] [] r_X11_advance_39 rfl rfl rfl (Nat.le_of_ble_eq_true rfl) rfl q7 ?_
  refine xm_E_s r_X11_advance_40 rfl rfl ?_
  refine xm_E_t q8 ?_
  refine xm_E_s r_X11_advance_61 rfl rfl ?_
  refine xm_E_s r_X11_advance_62 rfl rfl ?_
  refine xm_E_s r_X11_advance_63 rfl rfl ?_
  refine xm_E_s r_X11_advance_64 rfl rfl ?_
  refine xm_E_cs [.long r2.toInt64, .long (48 : Int64), .long (57 : Int64)] [] r_X11_advance_65 rfl rfl rfl (Nat.le_of_ble_eq_true rfl) rfl q9 ?_
  refine xm_E_s r_X11_advance_66 rfl rfl ?_
  refine xm_E_t q10 ?_
  refine xm_E_s r_X11_advance_105 rfl rfl ?_
  refine xm_E_s r_X11_advance_106 rfl rfl ?_
  refine xm_E_s r_X11_advance_107 rfl rfl ?_
  refine xm_E_s r_X11_advance_108 rfl rfl ?_
  refine xm_E_t q11 ?_
  refine xm_E_s r_X11_advance_109 rfl rfl ?_
  refine xm_E_s r_X11_advance_110 rfl rfl ?_
  refine xm_E_s r_X11_advance_112 rfl (xm_T_pi rfl q0 rfl rfl) ?_
  refine xm_E_s r_X11_advance_113 rfl rfl ?_
  refine xm_E_s r_X11_advance_114 rfl rfl ?_
  refine xm_E_s r_X11_advance_115 rfl (xm_T_gi rfl q0 rfl (Or.inl rfl)) ?_
  refine xm_E_s r_X11_advance_116 rfl rfl ?_
  refine xm_E_s r_X11_advance_117 rfl rfl ?_
  refine xm_E_s r_X11_advance_118 rfl (xm_T_pi rfl q0 rfl rfl) ?_
  exact xm_E_ret r_X11_advance_119 rfl
theorem p_X11_advance_0_4 {X : xm_X} {P : List xm_M} {d : Nat} {h : xm_H} {l0 : Nat} {h0 : xm_H} {r0 : Int32} {h1 : xm_H} {r1 : Int32} {h2 : xm_H} {r2 : Int32} {h3 : xm_H} {r3 : Int32} {h4 : xm_H} {r4 : Int32} (q0 : X.1[l0]? = some (.inr 10)) (q1 : xm_V X P d 198 [.ref l0, .int (h.1 l0 8)] h (some (.int r0)) h0) (q2 : ¬ (r0 = (32 : Int32))) (q3 : xm_V X P d 198 [.ref l0, .int (h0.1 l0 8)] h0 (some (.int r1)) h1) (q4 : ¬ (r1 = (10 : Int32))) (q5 : xm_V X P d 198 [.ref l0, .int ((xm_si h1 l0 9 (h1.1 l0 8)).1 l0 8)] (xm_si h1 l0 9 (h1.1 l0 8)) (some (.int r2)) h2) (q6 : ¬ (r2 = (-1 : Int32))) (q7 : xm_V X P d 191 [.long r2.toInt64, .long (97 : Int64), .long (122 : Int64)] h2 (some (.int r3)) h3) (q8 : r3 = (0 : Int32)) (q9 : xm_V X P d 191 [.long r2.toInt64, .long (48 : Int64), .long (57 : Int64)] h3 (some (.int r4)) h4) (q10 : r4 = (0 : Int32)) (q11 : ¬ (r2 = (59 : Int32))) : xm_E X P d co_X11_advance 0 [some (.ref l0), none] [] h none (xm_si (xm_si h4 l0 10 (4 : Int32)) l0 8 (((xm_si h4 l0 10 (4 : Int32)).1 l0 8) + (1 : Int32))) := by
  refine xm_E_s r_X11_advance_0 rfl rfl ?_
  refine xm_E_s r_X11_advance_1 rfl rfl ?_
  refine xm_E_s r_X11_advance_2 rfl (xm_T_gi rfl q0 rfl (Or.inl rfl)) ?_
  refine xm_E_cv [.ref l0, .int (h.1 l0 8)] [] r_X11_advance_3 rfl rfl (Nat.le_of_ble_eq_true rfl) (xm_rc q0 (by decide)) rfl q1 ?_
  refine xm_E_s r_X11_advance_4 rfl rfl ?_
  refine xm_E_s r_X11_advance_5 rfl rfl ?_
  refine xm_E_f q2 ?_
  refine xm_E_s r_X11_advance_6 rfl rfl ?_
  refine xm_E_s r_X11_advance_7 rfl rfl ?_
  refine xm_E_s r_X11_advance_8 rfl (xm_T_gi rfl q0 rfl (Or.inl rfl)) ?_
  refine xm_E_cv [.ref l0, .int (h0.1 l0 8)] [] r_X11_advance_9 rfl rfl (Nat.le_of_ble_eq_true rfl) (xm_rc q0 (by decide)) rfl q3 ?_
  refine xm_E_s r_X11_advance_10 rfl rfl ?_
  refine xm_E_s r_X11_advance_11 rfl rfl ?_
  refine xm_E_f q4 ?_
  refine xm_E_s r_X11_advance_19 rfl rfl ?_
  refine xm_E_s r_X11_advance_20 rfl rfl ?_
  refine xm_E_s r_X11_advance_21 rfl (xm_T_gi rfl q0 rfl (Or.inl rfl)) ?_
  refine xm_E_s r_X11_advance_22 rfl (xm_T_pi rfl q0 rfl rfl) ?_
  refine xm_E_s r_X11_advance_23 rfl rfl ?_
  refine xm_E_s r_X11_advance_24 rfl rfl ?_
  refine xm_E_s r_X11_advance_25 rfl (xm_T_gi rfl q0 rfl (Or.inl rfl)) ?_
  refine xm_E_cv [.ref l0, .int ((xm_si h1 l0 9 (h1.1 l0 8)).1 l0 8)] [] r_X11_advance_26 rfl rfl (Nat.le_of_ble_eq_true rfl) (xm_rc q0 (by decide)) rfl q5 ?_
  refine xm_E_s (ls1 := [some (.ref l0), some (.int r2)]) r_X11_advance_27 rfl rfl ?_
  refine xm_E_s r_X11_advance_28 rfl rfl ?_
  refine xm_E_s r_X11_advance_29 rfl rfl ?_
  refine xm_E_s r_X11_advance_30 rfl rfl ?_
  refine xm_E_f q6 ?_
  refine xm_E_s r_X11_advance_35 rfl rfl ?_
  refine xm_E_s r_X11_advance_36 rfl rfl ?_
  refine xm_E_s r_X11_advance_37 rfl rfl ?_
  refine xm_E_s r_X11_advance_38 rfl rfl ?_
  refine xm_E_cs [.long r2.toInt64, .long (97 : Int64), .long (122 : Int64)] [] r_X11_advance_39 rfl rfl rfl (Nat.le_of_ble_eq_true rfl) rfl q7 ?_
  refine xm_E_s r_X11_advance_40 rfl rfl ?_
  refine xm_E_t q8 ?_
  refine xm_E_s r_X11_advance_61 rfl rfl ?_
  refine xm_E_s r_X11_advance_62 rfl rfl ?_
  refine xm_E_s r_X11_advance_63 rfl rfl ?_
  refine xm_E_s r_X11_advance_64 rfl rfl ?_
  refine xm_E_cs [.long r2.toInt64, .long (48 : Int64), .long (57 : Int64)] [] r_X11_advance_65 rfl rfl rfl (Nat.le_of_ble_eq_true rfl) rfl q9 ?_
  refine xm_E_s r_X11_advance_66 rfl rfl ?_
  refine xm_E_t q10 ?_
  refine xm_E_s r_X11_advance_105 rfl rfl ?_
  refine xm_E_s r_X11_advance_106 rfl rfl ?_
  refine xm_E_s r_X11_advance_107 rfl rfl ?_
  refine xm_E_s r_X11_advance_108 rfl rfl ?_
  refine xm_E_f q11 ?_
  refine xm_E_s r_X11_advance_111 rfl rfl ?_
  refine xm_E_s r_X11_advance_112 rfl (xm_T_pi rfl q0 rfl rfl) ?_
  refine xm_E_s r_X11_advance_113 rfl rfl ?_
  refine xm_E_s r_X11_advance_114 rfl rfl ?_
  refine xm_E_s r_X11_advance_115 rfl (xm_T_gi rfl q0 rfl (Or.inl rfl)) ?_
  refine xm_E_s r_X11_advance_116 rfl rfl ?_
  refine xm_E_s r_X11_advance_117 rfl rfl ?_
  refine xm_E_s r_X11_advance_118 rfl (xm_T_pi rfl q0 rfl rfl) ?_
  exact xm_E_ret r_X11_advance_119 rfl
theorem p_X11_advance_0_5 {X : xm_X} {P : List xm_M} {d : Nat} {h : xm_H} {l0 : Nat} {h0 : xm_H} {r0 : Int32} {h1 : xm_H} {r1 : Int32} {h2 : xm_H} {r2 : Int32} {h3 : xm_H} {r3 : Int32} {h4 : xm_H} {r4 : Int32} {ro : Option Value} {ho : xm_H} (q0 : X.1[l0]? = some (.inr 10)) (q1 : xm_V X P d 198 [.ref l0, .int (h.1 l0 8)] h (some (.int r0)) h0) (q2 : ¬ (r0 = (32 : Int32))) (q3 : xm_V X P d 198 [.ref l0, .int (h0.1 l0 8)] h0 (some (.int r1)) h1) (q4 : ¬ (r1 = (10 : Int32))) (q5 : xm_V X P d 198 [.ref l0, .int ((xm_si h1 l0 9 (h1.1 l0 8)).1 l0 8)] (xm_si h1 l0 9 (h1.1 l0 8)) (some (.int r2)) h2) (q6 : ¬ (r2 = (-1 : Int32))) (q7 : xm_V X P d 191 [.long r2.toInt64, .long (97 : Int64), .long (122 : Int64)] h2 (some (.int r3)) h3) (q8 : r3 = (0 : Int32)) (q9 : xm_V X P d 191 [.long r2.toInt64, .long (48 : Int64), .long (57 : Int64)] h3 (some (.int r4)) h4) (q10 : ¬ (r4 = (0 : Int32))) (K : xm_E X P d co_X11_advance 70 [some (.ref l0), some (.int r2)] [] (xm_si h4 l0 11 (0 : Int32)) ro ho) : xm_E X P d co_X11_advance 0 [some (.ref l0), none] [] h ro ho := by
  refine xm_E_s r_X11_advance_0 rfl rfl ?_
  refine xm_E_s r_X11_advance_1 rfl rfl ?_
  refine xm_E_s r_X11_advance_2 rfl (xm_T_gi rfl q0 rfl (Or.inl rfl)) ?_
  refine xm_E_cv [.ref l0, .int (h.1 l0 8)] [] r_X11_advance_3 rfl rfl (Nat.le_of_ble_eq_true rfl) (xm_rc q0 (by decide)) rfl q1 ?_
  refine xm_E_s r_X11_advance_4 rfl rfl ?_
  refine xm_E_s r_X11_advance_5 rfl rfl ?_
  refine xm_E_f q2 ?_
  refine xm_E_s r_X11_advance_6 rfl rfl ?_
  refine xm_E_s r_X11_advance_7 rfl rfl ?_
  refine xm_E_s r_X11_advance_8 rfl (xm_T_gi rfl q0 rfl (Or.inl rfl)) ?_
  refine xm_E_cv [.ref l0, .int (h0.1 l0 8)] [] r_X11_advance_9 rfl rfl (Nat.le_of_ble_eq_true rfl) (xm_rc q0 (by decide)) rfl q3 ?_
  refine xm_E_s r_X11_advance_10 rfl rfl ?_
  refine xm_E_s r_X11_advance_11 rfl rfl ?_
  refine xm_E_f q4 ?_
  refine xm_E_s r_X11_advance_19 rfl rfl ?_
  refine xm_E_s r_X11_advance_20 rfl rfl ?_
  refine xm_E_s r_X11_advance_21 rfl (xm_T_gi rfl q0 rfl (Or.inl rfl)) ?_
  refine xm_E_s r_X11_advance_22 rfl (xm_T_pi rfl q0 rfl rfl) ?_
  refine xm_E_s r_X11_advance_23 rfl rfl ?_
  refine xm_E_s r_X11_advance_24 rfl rfl ?_
  refine xm_E_s r_X11_advance_25 rfl (xm_T_gi rfl q0 rfl (Or.inl rfl)) ?_
  refine xm_E_cv [.ref l0, .int ((xm_si h1 l0 9 (h1.1 l0 8)).1 l0 8)] [] r_X11_advance_26 rfl rfl (Nat.le_of_ble_eq_true rfl) (xm_rc q0 (by decide)) rfl q5 ?_
  refine xm_E_s (ls1 := [some (.ref l0), some (.int r2)]) r_X11_advance_27 rfl rfl ?_
  refine xm_E_s r_X11_advance_28 rfl rfl ?_
  refine xm_E_s r_X11_advance_29 rfl rfl ?_
  refine xm_E_s r_X11_advance_30 rfl rfl ?_
  refine xm_E_f q6 ?_
  refine xm_E_s r_X11_advance_35 rfl rfl ?_
  refine xm_E_s r_X11_advance_36 rfl rfl ?_
  refine xm_E_s r_X11_advance_37 rfl rfl ?_
  refine xm_E_s r_X11_advance_38 rfl rfl ?_
  refine xm_E_cs [.long r2.toInt64, .long (97 : Int64), .long (122 : Int64)] [] r_X11_advance_39 rfl rfl rfl (Nat.le_of_ble_eq_true rfl) rfl q7 ?_
  refine xm_E_s r_X11_advance_40 rfl rfl ?_
  refine xm_E_t q8 ?_
  refine xm_E_s r_X11_advance_61 rfl rfl ?_
  refine xm_E_s r_X11_advance_62 rfl rfl ?_
  refine xm_E_s r_X11_advance_63 rfl rfl ?_
  refine xm_E_s r_X11_advance_64 rfl rfl ?_
  refine xm_E_cs [.long r2.toInt64, .long (48 : Int64), .long (57 : Int64)] [] r_X11_advance_65 rfl rfl rfl (Nat.le_of_ble_eq_true rfl) rfl q9 ?_
  refine xm_E_s r_X11_advance_66 rfl rfl ?_
  refine xm_E_f q10 ?_
  refine xm_E_s r_X11_advance_67 rfl rfl ?_
  refine xm_E_s r_X11_advance_68 rfl rfl ?_
  refine xm_E_s r_X11_advance_69 rfl (xm_T_pi rfl q0 rfl rfl) ?_
  exact K
theorem p_X11_advance_0_6 {X : xm_X} {P : List xm_M} {d : Nat} {h : xm_H} {l0 : Nat} {h0 : xm_H} {r0 : Int32} {h1 : xm_H} {r1 : Int32} {h2 : xm_H} {r2 : Int32} {h3 : xm_H} {r3 : Int32} {ro : Option Value} {ho : xm_H} (q0 : X.1[l0]? = some (.inr 10)) (q1 : xm_V X P d 198 [.ref l0, .int (h.1 l0 8)] h (some (.int r0)) h0) (q2 : ¬ (r0 = (32 : Int32))) (q3 : xm_V X P d 198 [.ref l0, .int (h0.1 l0 8)] h0 (some (.int r1)) h1) (q4 : ¬ (r1 = (10 : Int32))) (q5 : xm_V X P d 198 [.ref l0, .int ((xm_si h1 l0 9 (h1.1 l0 8)).1 l0 8)] (xm_si h1 l0 9 (h1.1 l0 8)) (some (.int r2)) h2) (q6 : ¬ (r2 = (-1 : Int32))) (q7 : xm_V X P d 191 [.long r2.toInt64, .long (97 : Int64), .long (122 : Int64)] h2 (some (.int r3)) h3) (q8 : ¬ (r3 = (0 : Int32))) (K : xm_E X P d co_X11_advance 41 [some (.ref l0), some (.int r2)] [] h3 ro ho) : xm_E X P d co_X11_advance 0 [some (.ref l0), none] [] h ro ho := by
  refine xm_E_s r_X11_advance_0 rfl rfl ?_
  refine xm_E_s r_X11_advance_1 rfl rfl ?_
  refine xm_E_s r_X11_advance_2 rfl (xm_T_gi rfl q0 rfl (Or.inl rfl)) ?_
  refine xm_E_cv [.ref l0, .int (h.1 l0 8)] [] r_X11_advance_3 rfl rfl (Nat.le_of_ble_eq_true rfl) (xm_rc q0 (by decide)) rfl q1 ?_
  refine xm_E_s r_X11_advance_4 rfl rfl ?_
  refine xm_E_s r_X11_advance_5 rfl rfl ?_
  refine xm_E_f q2 ?_
  refine xm_E_s r_X11_advance_6 rfl rfl ?_
  refine xm_E_s r_X11_advance_7 rfl rfl ?_
  refine xm_E_s r_X11_advance_8 rfl (xm_T_gi rfl q0 rfl (Or.inl rfl)) ?_
  refine xm_E_cv [.ref l0, .int (h0.1 l0 8)] [] r_X11_advance_9 rfl rfl (Nat.le_of_ble_eq_true rfl) (xm_rc q0 (by decide)) rfl q3 ?_
  refine xm_E_s r_X11_advance_10 rfl rfl ?_
  refine xm_E_s r_X11_advance_11 rfl rfl ?_
  refine xm_E_f q4 ?_
  refine xm_E_s r_X11_advance_19 rfl rfl ?_
  refine xm_E_s r_X11_advance_20 rfl rfl ?_
  refine xm_E_s r_X11_advance_21 rfl (xm_T_gi rfl q0 rfl (Or.inl rfl)) ?_
  refine xm_E_s r_X11_advance_22 rfl (xm_T_pi rfl q0 rfl rfl) ?_
  refine xm_E_s r_X11_advance_23 rfl rfl ?_
  refine xm_E_s r_X11_advance_24 rfl rfl ?_
  refine xm_E_s r_X11_advance_25 rfl (xm_T_gi rfl q0 rfl (Or.inl rfl)) ?_
  refine xm_E_cv [.ref l0, .int ((xm_si h1 l0 9 (h1.1 l0 8)).1 l0 8)] [] r_X11_advance_26 rfl rfl (Nat.le_of_ble_eq_true rfl) (xm_rc q0 (by decide)) rfl q5 ?_
  refine xm_E_s (ls1 := [some (.ref l0), some (.int r2)]) r_X11_advance_27 rfl rfl ?_
  refine xm_E_s r_X11_advance_28 rfl rfl ?_
  refine xm_E_s r_X11_advance_29 rfl rfl ?_
  refine xm_E_s r_X11_advance_30 rfl rfl ?_
  refine xm_E_f q6 ?_
  refine xm_E_s r_X11_advance_35 rfl rfl ?_
  refine xm_E_s r_X11_advance_36 rfl rfl ?_
  refine xm_E_s r_X11_advance_37 rfl rfl ?_
  refine xm_E_s r_X11_advance_38 rfl rfl ?_
  refine xm_E_cs [.long r2.toInt64, .long (97 : Int64), .long (122 : Int64)] [] r_X11_advance_39 rfl rfl rfl (Nat.le_of_ble_eq_true rfl) rfl q7 ?_
  refine xm_E_s r_X11_advance_40 rfl rfl ?_
  refine xm_E_f q8 ?_
  exact K
theorem p_X11_advance_41_0 {X : xm_X} {P : List xm_M} {d : Nat} {h : xm_H} {l0 : Nat} {l1 : Int32} {h0 : xm_H} {r0 : Int32} {h1 : xm_H} {r1 : Int32} (q0 : X.1[l0]? = some (.inr 10)) (q1 : xm_V X P d 198 [.ref l0, .int (h.1 l0 8)] h (some (.int r0)) h0) (q2 : xm_V X P d 191 [.long r0.toInt64, .long (97 : Int64), .long (122 : Int64)] h0 (some (.int r1)) h1) (q3 : r1 = (0 : Int32)) : xm_E X P d co_X11_advance 41 [some (.ref l0), some (.int l1)] [] h none (xm_si h1 l0 10 (1 : Int32)) := by
  refine xm_E_s r_X11_advance_41 rfl rfl ?_
  refine xm_E_s r_X11_advance_42 rfl rfl ?_
  refine xm_E_s r_X11_advance_43 rfl (xm_T_gi rfl q0 rfl (Or.inl rfl)) ?_
  refine xm_E_cv [.ref l0, .int (h.1 l0 8)] [] r_X11_advance_44 rfl rfl (Nat.le_of_ble_eq_true rfl) (xm_rc q0 (by decide)) rfl q1 ?_
  refine xm_E_s r_X11_advance_45 rfl rfl ?_
  refine xm_E_s r_X11_advance_46 rfl rfl ?_
  refine xm_E_s r_X11_advance_47 rfl rfl ?_
  refine xm_E_cs [.long r0.toInt64, .long (97 : Int64), .long (122 : Int64)] [] r_X11_advance_48 rfl rfl rfl (Nat.le_of_ble_eq_true rfl) rfl q2 ?_
  refine xm_E_s r_X11_advance_49 rfl rfl ?_
  refine xm_E_t q3 ?_
  refine xm_E_s r_X11_advance_57 rfl rfl ?_
  refine xm_E_s r_X11_advance_58 rfl rfl ?_
  refine xm_E_s r_X11_advance_59 rfl (xm_T_pi rfl q0 rfl rfl) ?_
  refine xm_E_s r_X11_advance_60 rfl rfl ?_
  exact xm_E_ret r_X11_advance_119 rfl
theorem p_X11_advance_41_1 {X : xm_X} {P : List xm_M} {d : Nat} {h : xm_H} {l0 : Nat} {l1 : Int32} {h0 : xm_H} {r0 : Int32} {h1 : xm_H} {r1 : Int32} {ro : Option Value} {ho : xm_H} (q0 : X.1[l0]? = some (.inr 10)) (q1 : xm_V X P d 198 [.ref l0, .int (h.1 l0 8)] h (some (.int r0)) h0) (q2 : xm_V X P d 191 [.long r0.toInt64, .long (97 : Int64), .long (122 : Int64)] h0 (some (.int r1)) h1) (q3 : ¬ (r1 = (0 : Int32))) (K : xm_E X P d co_X11_advance 41 [some (.ref l0), some (.int l1)] [] (xm_si h1 l0 8 ((h1.1 l0 8) + (1 : Int32))) ro ho) : xm_E X P d co_X11_advance 41 [some (.ref l0), some (.int l1)] [] h ro ho := by
  refine xm_E_s r_X11_advance_41 rfl rfl ?_
  refine xm_E_s r_X11_advance_42 rfl rfl ?_
  refine xm_E_s r_X11_advance_43 rfl (xm_T_gi rfl q0 rfl (Or.inl rfl)) ?_
  refine xm_E_cv [.ref l0, .int (h.1 l0 8)] [] r_X11_advance_44 rfl rfl (Nat.le_of_ble_eq_true rfl) (xm_rc q0 (by decide)) rfl q1 ?_
  refine xm_E_s r_X11_advance_45 rfl rfl ?_
  refine xm_E_s r_X11_advance_46 rfl rfl ?_
  refine xm_E_s r_X11_advance_47 rfl rfl ?_
  refine xm_E_cs [.long r0.toInt64, .long (97 : Int64), .long (122 : Int64)] [] r_X11_advance_48 rfl rfl rfl (Nat.le_of_ble_eq_true rfl) rfl q2 ?_
  refine xm_E_s r_X11_advance_49 rfl rfl ?_
  refine xm_E_f q3 ?_
  refine xm_E_s r_X11_advance_50 rfl rfl ?_
  refine xm_E_s r_X11_advance_51 rfl rfl ?_
  refine xm_E_s r_X11_advance_52 rfl (xm_T_gi rfl q0 rfl (Or.inl rfl)) ?_
  refine xm_E_s r_X11_advance_53 rfl rfl ?_
  refine xm_E_s r_X11_advance_54 rfl rfl ?_
  refine xm_E_s r_X11_advance_55 rfl (xm_T_pi rfl q0 rfl rfl) ?_
  refine xm_E_s r_X11_advance_56 rfl rfl ?_
  exact K
theorem p_X11_advance_70_0 {X : xm_X} {P : List xm_M} {d : Nat} {h : xm_H} {l0 : Nat} {l1 : Int32} {h0 : xm_H} {r0 : Int32} {h1 : xm_H} {r1 : Int32} (q0 : X.1[l0]? = some (.inr 10)) (q1 : xm_V X P d 198 [.ref l0, .int (h.1 l0 8)] h (some (.int r0)) h0) (q2 : xm_V X P d 191 [.long r0.toInt64, .long (48 : Int64), .long (57 : Int64)] h0 (some (.int r1)) h1) (q3 : r1 = (0 : Int32)) : xm_E X P d co_X11_advance 70 [some (.ref l0), some (.int l1)] [] h none (xm_si h1 l0 10 (2 : Int32)) := by
  refine xm_E_s r_X11_advance_70 rfl rfl ?_
  refine xm_E_s r_X11_advance_71 rfl rfl ?_
  refine xm_E_s r_X11_advance_72 rfl (xm_T_gi rfl q0 rfl (Or.inl rfl)) ?_
  refine xm_E_cv [.ref l0, .int (h.1 l0 8)] [] r_X11_advance_73 rfl rfl (Nat.le_of_ble_eq_true rfl) (xm_rc q0 (by decide)) rfl q1 ?_
  refine xm_E_s r_X11_advance_74 rfl rfl ?_
  refine xm_E_s r_X11_advance_75 rfl rfl ?_
  refine xm_E_s r_X11_advance_76 rfl rfl ?_
  refine xm_E_cs [.long r0.toInt64, .long (48 : Int64), .long (57 : Int64)] [] r_X11_advance_77 rfl rfl rfl (Nat.le_of_ble_eq_true rfl) rfl q2 ?_
  refine xm_E_s r_X11_advance_78 rfl rfl ?_
  refine xm_E_t q3 ?_
  refine xm_E_s r_X11_advance_101 rfl rfl ?_
  refine xm_E_s r_X11_advance_102 rfl rfl ?_
  refine xm_E_s r_X11_advance_103 rfl (xm_T_pi rfl q0 rfl rfl) ?_
  refine xm_E_s r_X11_advance_104 rfl rfl ?_
  exact xm_E_ret r_X11_advance_119 rfl
theorem p_X11_advance_70_1 {X : xm_X} {P : List xm_M} {d : Nat} {h : xm_H} {l0 : Nat} {l1 : Int32} {h0 : xm_H} {r0 : Int32} {h1 : xm_H} {r1 : Int32} {h2 : xm_H} {r2 : Int32} {ro : Option Value} {ho : xm_H} (q0 : X.1[l0]? = some (.inr 10)) (q1 : xm_V X P d 198 [.ref l0, .int (h.1 l0 8)] h (some (.int r0)) h0) (q2 : xm_V X P d 191 [.long r0.toInt64, .long (48 : Int64), .long (57 : Int64)] h0 (some (.int r1)) h1) (q3 : ¬ (r1 = (0 : Int32))) (q4 : xm_V X P d 198 [.ref l0, .int (h1.1 l0 8)] h1 (some (.int r2)) h2) (K : xm_E X P d co_X11_advance 70 [some (.ref l0), some (.int l1)] [] (xm_si (xm_si h2 l0 11 (if (((10 : Int32) * (h1.1 l0 11)) + r2) - (48 : Int32) < (99999 : Int32) then (((10 : Int32) * (h1.1 l0 11)) + r2) - (48 : Int32) else (99999 : Int32))) l0 8 (((xm_si h2 l0 11 (if (((10 : Int32) * (h1.1 l0 11)) + r2) - (48 : Int32) < (99999 : Int32) then (((10 : Int32) * (h1.1 l0 11)) + r2) - (48 : Int32) else (99999 : Int32))).1 l0 8) + (1 : Int32))) ro ho) : xm_E X P d co_X11_advance 70 [some (.ref l0), some (.int l1)] [] h ro ho := by
  refine xm_E_s r_X11_advance_70 rfl rfl ?_
  refine xm_E_s r_X11_advance_71 rfl rfl ?_
  refine xm_E_s r_X11_advance_72 rfl (xm_T_gi rfl q0 rfl (Or.inl rfl)) ?_
  refine xm_E_cv [.ref l0, .int (h.1 l0 8)] [] r_X11_advance_73 rfl rfl (Nat.le_of_ble_eq_true rfl) (xm_rc q0 (by decide)) rfl q1 ?_
  refine xm_E_s r_X11_advance_74 rfl rfl ?_
  refine xm_E_s r_X11_advance_75 rfl rfl ?_
  refine xm_E_s r_X11_advance_76 rfl rfl ?_
  refine xm_E_cs [.long r0.toInt64, .long (48 : Int64), .long (57 : Int64)] [] r_X11_advance_77 rfl rfl rfl (Nat.le_of_ble_eq_true rfl) rfl q2 ?_
  refine xm_E_s r_X11_advance_78 rfl rfl ?_
  refine xm_E_f q3 ?_
  refine xm_E_s r_X11_advance_79 rfl rfl ?_
  refine xm_E_s r_X11_advance_80 rfl rfl ?_
  refine xm_E_s r_X11_advance_81 rfl rfl ?_
  refine xm_E_s r_X11_advance_82 rfl rfl ?_
  refine xm_E_s r_X11_advance_83 rfl (xm_T_gi rfl q0 rfl (Or.inl rfl)) ?_
  refine xm_E_s r_X11_advance_84 rfl rfl ?_
  refine xm_E_s r_X11_advance_85 rfl rfl ?_
  refine xm_E_s r_X11_advance_86 rfl rfl ?_
  refine xm_E_s r_X11_advance_87 rfl (xm_T_gi rfl q0 rfl (Or.inl rfl)) ?_
  refine xm_E_cv [.ref l0, .int (h1.1 l0 8)] [.int ((10 : Int32) * (h1.1 l0 11)), .int (99999 : Int32), .ref l0] r_X11_advance_88 rfl rfl (Nat.le_of_ble_eq_true rfl) (xm_rc q0 (by decide)) rfl q4 ?_
  refine xm_E_s r_X11_advance_89 rfl rfl ?_
  refine xm_E_s r_X11_advance_90 rfl rfl ?_
  refine xm_E_s r_X11_advance_91 rfl rfl ?_
  refine xm_E_s r_X11_advance_92 rfl rfl ?_
  refine xm_E_s r_X11_advance_93 rfl (xm_T_pi rfl q0 rfl rfl) ?_
  refine xm_E_s r_X11_advance_94 rfl rfl ?_
  refine xm_E_s r_X11_advance_95 rfl rfl ?_
  refine xm_E_s r_X11_advance_96 rfl (xm_T_gi rfl q0 rfl (Or.inl rfl)) ?_
  refine xm_E_s r_X11_advance_97 rfl rfl ?_
  refine xm_E_s r_X11_advance_98 rfl rfl ?_
  refine xm_E_s r_X11_advance_99 rfl (xm_T_pi rfl q0 rfl rfl) ?_
  refine xm_E_s r_X11_advance_100 rfl rfl ?_
  exact K
theorem r_X11_see_0 : co_X11_see[0]? = some ((0, .iload_n 1, 0, 0, 0, 0, 0, 0, []) : xm_I) := rfl
theorem r_X11_see_1 : co_X11_see[1]? = some ((1, .aload_n 0, 0, 0, 0, 0, 0, 0, []) : xm_I) := rfl
theorem r_X11_see_2 : co_X11_see[2]? = some ((2, .getfield 91, 1387, 10, 7, 0, 0, 0, []) : xm_I) := rfl
theorem r_X11_see_3 : co_X11_see[3]? = some ((5, .if_icmp .ge 16, 0, 0, 11, 0, 0, 0, []) : xm_I) := rfl
theorem r_X11_see_4 : co_X11_see[4]? = some ((8, .aload_n 0, 0, 0, 0, 0, 0, 0, []) : xm_I) := rfl
theorem r_X11_see_5 : co_X11_see[5]? = some ((9, .getfield 20, 1384, 10, 4, 2, 0, 0, []) : xm_I) := rfl
theorem r_X11_see_6 : co_X11_see[6]? = some ((12, .iload_n 1, 0, 0, 0, 0, 0, 0, []) : xm_I) := rfl
theorem r_X11_see_7 : co_X11_see[7]? = some ((13, .baload, 0, 0, 0, 0, 0, 0, []) : xm_I) := rfl
theorem r_X11_see_8 : co_X11_see[8]? = some ((14, .sipush 255, 0, 0, 0, 0, 255, 0, []) : xm_I) := rfl
theorem r_X11_see_9 : co_X11_see[9]? = some ((17, .iand, 0, 0, 0, 0, 0, 0, []) : xm_I) := rfl
theorem r_X11_see_10 : co_X11_see[10]? = some ((18, .goto 4, 0, 0, 12, 0, 0, 0, []) : xm_I) := rfl
theorem r_X11_see_11 : co_X11_see[11]? = some ((21, .iconst (-1), 0, 0, 0, 0, (-1), 0, []) : xm_I) := rfl
theorem r_X11_see_12 : co_X11_see[12]? = some ((22, .ireturn, 0, 0, 0, 0, 0, 0, []) : xm_I) := rfl
theorem p_X11_see_0_0 {X : xm_X} {P : List xm_M} {d : Nat} {h : xm_H} {l0 : Nat} {l1 : Int32} (q0 : X.1[l0]? = some (.inr 10)) (q1 : h.1 l0 7 ≤ l1) : xm_E X P d co_X11_see 0 [some (.ref l0), some (.int l1)] [] h (some (.int (-1 : Int32))) h := by
  refine xm_E_s r_X11_see_0 rfl rfl ?_
  refine xm_E_s r_X11_see_1 rfl rfl ?_
  refine xm_E_s r_X11_see_2 rfl (xm_T_gi rfl q0 rfl (Or.inl rfl)) ?_
  refine xm_E_s r_X11_see_3 rfl rfl ?_
  refine xm_E_t q1 ?_
  refine xm_E_s r_X11_see_11 rfl rfl ?_
  exact xm_E_iret r_X11_see_12 rfl rfl
theorem p_X11_see_0_1 {X : xm_X} {P : List xm_M} {d : Nat} {h : xm_H} {l0 : Nat} {l1 : Int32} {v0 : Nat} {n1 : Nat} {b1 : Nat} (q0 : X.1[l0]? = some (.inr 10)) (q1 : ¬ (h.1 l0 7 ≤ l1)) (q2 : h.2.2 l0 4 = some v0) (q3 : X.1[v0]? = some (.inl (b1, n1))) (q4 : ¬ (l1 < 0 ∨ n1 ≤ l1.toNatClampNeg)) (q5 : 1 ≤ b1 ∧ b1 ≤ 2) : xm_E X P d co_X11_see 0 [some (.ref l0), some (.int l1)] [] h (some (.int ((h.1 v0 l1.toNatClampNeg) &&& (255 : Int32)))) h := by
  refine xm_E_s r_X11_see_0 rfl rfl ?_
  refine xm_E_s r_X11_see_1 rfl rfl ?_
  refine xm_E_s r_X11_see_2 rfl (xm_T_gi rfl q0 rfl (Or.inl rfl)) ?_
  refine xm_E_s r_X11_see_3 rfl rfl ?_
  refine xm_E_f q1 ?_
  refine xm_E_s r_X11_see_4 rfl rfl ?_
  refine xm_E_s r_X11_see_5 rfl (xm_T_gr rfl q0 rfl rfl q2) ?_
  refine xm_E_s r_X11_see_6 rfl rfl ?_
  refine xm_E_s r_X11_see_7 rfl (xm_T_bald rfl q3 q5 q4) ?_
  refine xm_E_s r_X11_see_8 rfl rfl ?_
  refine xm_E_s r_X11_see_9 rfl rfl ?_
  refine xm_E_s r_X11_see_10 rfl rfl ?_
  exact xm_E_iret r_X11_see_12 rfl rfl
theorem r_X11_good_0 : co_X11_good[0]? = some ((0, .aload_n 0, 0, 0, 0, 0, 0, 0, []) : xm_I) := rfl
theorem r_X11_good_1 : co_X11_good[1]? = some ((1, .getfield 125, 1392, 10, 12, 0, 0, 0, []) : xm_I) := rfl
theorem r_X11_good_2 : co_X11_good[2]? = some ((4, .ifCond .ne 7, 0, 0, 5, 0, 0, 0, []) : xm_I) := rfl
theorem r_X11_good_3 : co_X11_good[3]? = some ((7, .iconst 1, 0, 0, 0, 0, 1, 0, []) : xm_I) := rfl
theorem r_X11_good_4 : co_X11_good[4]? = some ((8, .goto 4, 0, 0, 6, 0, 0, 0, []) : xm_I) := rfl
theorem r_X11_good_5 : co_X11_good[5]? = some ((11, .iconst 0, 0, 0, 0, 0, 0, 0, []) : xm_I) := rfl
theorem r_X11_good_6 : co_X11_good[6]? = some ((12, .ireturn, 0, 0, 0, 3, 0, 0, []) : xm_I) := rfl
theorem p_X11_good_0_0 {X : xm_X} {P : List xm_M} {d : Nat} {h : xm_H} {l0 : Nat} (q0 : X.1[l0]? = some (.inr 10)) (q1 : h.1 l0 12 = (0 : Int32)) : xm_E X P d co_X11_good 0 [some (.ref l0)] [] h (some (.int (1 : Int32))) h := by
  refine xm_E_s r_X11_good_0 rfl rfl ?_
  refine xm_E_s r_X11_good_1 rfl (xm_T_gi rfl q0 rfl (Or.inl rfl)) ?_
  refine xm_E_s r_X11_good_2 rfl rfl ?_
  refine xm_E_t q1 ?_
  refine xm_E_s r_X11_good_3 rfl rfl ?_
  refine xm_E_s r_X11_good_4 rfl rfl ?_
  exact xm_E_iret r_X11_good_6 rfl rfl
theorem p_X11_good_0_1 {X : xm_X} {P : List xm_M} {d : Nat} {h : xm_H} {l0 : Nat} (q0 : X.1[l0]? = some (.inr 10)) (q1 : ¬ (h.1 l0 12 = (0 : Int32))) : xm_E X P d co_X11_good 0 [some (.ref l0)] [] h (some (.int (0 : Int32))) h := by
  refine xm_E_s r_X11_good_0 rfl rfl ?_
  refine xm_E_s r_X11_good_1 rfl (xm_T_gi rfl q0 rfl (Or.inl rfl)) ?_
  refine xm_E_s r_X11_good_2 rfl rfl ?_
  refine xm_E_f q1 ?_
  refine xm_E_s r_X11_good_5 rfl rfl ?_
  exact xm_E_iret r_X11_good_6 rfl rfl
theorem r_X11_readLine_0 : co_X11_readLine[0]? = some ((0, .aload_n 0, 0, 0, 0, 0, 0, 0, []) : xm_I) := rfl
theorem r_X11_readLine_1 : co_X11_readLine[1]? = some ((1, .getfield 31, 1394, 10, 14, 2, 0, 0, []) : xm_I) := rfl
theorem r_X11_readLine_2 : co_X11_readLine[2]? = some ((4, .bipush 22, 0, 0, 0, 0, 22, 0, []) : xm_I) := rfl
theorem r_X11_readLine_3 : co_X11_readLine[3]? = some ((6, .iaload, 0, 0, 0, 0, 0, 0, []) : xm_I) := rfl
theorem r_X11_readLine_4 : co_X11_readLine[4]? = some ((7, .ifCond .ne 10, 0, 0, 8, 0, 0, 0, []) : xm_I) := rfl
theorem r_X11_readLine_5 : co_X11_readLine[5]? = some ((10, .aload_n 0, 0, 0, 0, 0, 0, 0, []) : xm_I) := rfl
theorem r_X11_readLine_6 : co_X11_readLine[6]? = some ((11, .invokevirtual 248, 1548, 201, 1, 10, 0, 0, []) : xm_I) := rfl
theorem r_X11_readLine_7 : co_X11_readLine[7]? = some ((14, .goto 7, 0, 0, 10, 0, 0, 0, []) : xm_I) := rfl
theorem r_X11_readLine_8 : co_X11_readLine[8]? = some ((17, .aload_n 0, 0, 0, 0, 0, 0, 0, []) : xm_I) := rfl
theorem r_X11_readLine_9 : co_X11_readLine[9]? = some ((18, .invokevirtual 251, 1584, 208, 1, 10, 0, 0, []) : xm_I) := rfl
theorem r_X11_readLine_10 : co_X11_readLine[10]? = some ((21, .aload_n 0, 0, 0, 0, 0, 0, 0, []) : xm_I) := rfl
theorem r_X11_readLine_11 : co_X11_readLine[11]? = some ((22, .invokevirtual 128, 1540, 199, 1, 10, 0, 0, []) : xm_I) := rfl
theorem r_X11_readLine_12 : co_X11_readLine[12]? = some ((25, .ifCond .eq 16, 0, 0, 20, 0, 0, 0, []) : xm_I) := rfl
theorem r_X11_readLine_13 : co_X11_readLine[13]? = some ((28, .aload_n 0, 0, 0, 0, 0, 0, 0, []) : xm_I) := rfl
theorem r_X11_readLine_14 : co_X11_readLine[14]? = some ((29, .getfield 104, 1390, 10, 10, 0, 0, 0, []) : xm_I) := rfl
theorem r_X11_readLine_15 : co_X11_readLine[15]? = some ((32, .iconst 3, 0, 0, 0, 0, 3, 0, []) : xm_I) := rfl
theorem r_X11_readLine_16 : co_X11_readLine[16]? = some ((33, .if_icmp .eq 8, 0, 0, 20, 0, 0, 0, []) : xm_I) := rfl
theorem r_X11_readLine_17 : co_X11_readLine[17]? = some ((36, .aload_n 0, 0, 0, 0, 0, 0, 0, []) : xm_I) := rfl
theorem r_X11_readLine_18 : co_X11_readLine[18]? = some ((37, .iconst 1, 0, 0, 0, 0, 1, 0, []) : xm_I) := rfl
theorem r_X11_readLine_19 : co_X11_readLine[19]? = some ((38, .invokevirtual 152, 1567, 205, 2, 10, 0, 0, []) : xm_I) := rfl
theorem r_X11_readLine_20 : co_X11_readLine[20]? = some ((41, .aload_n 0, 0, 0, 0, 0, 0, 0, []) : xm_I) := rfl
theorem r_X11_readLine_21 : co_X11_readLine[21]? = some ((42, .invokevirtual 128, 1540, 199, 1, 10, 0, 0, []) : xm_I) := rfl
theorem r_X11_readLine_22 : co_X11_readLine[22]? = some ((45, .ifCond .eq 7, 0, 0, 25, 0, 0, 0, []) : xm_I) := rfl
theorem r_X11_readLine_23 : co_X11_readLine[23]? = some ((48, .aload_n 0, 0, 0, 0, 0, 0, 0, []) : xm_I) := rfl
theorem r_X11_readLine_24 : co_X11_readLine[24]? = some ((49, .invokevirtual 146, 1526, 197, 1, 10, 0, 0, []) : xm_I) := rfl
theorem r_X11_readLine_25 : co_X11_readLine[25]? = some ((52, .aload_n 0, 0, 0, 0, 0, 0, 0, []) : xm_I) := rfl
theorem r_X11_readLine_26 : co_X11_readLine[26]? = some ((53, .getfield 31, 1394, 10, 14, 2, 0, 0, []) : xm_I) := rfl
theorem r_X11_readLine_27 : co_X11_readLine[27]? = some ((56, .bipush 22, 0, 0, 0, 0, 22, 0, []) : xm_I) := rfl
theorem r_X11_readLine_28 : co_X11_readLine[28]? = some ((58, .dup2, 0, 0, 0, 0, 0, 0, []) : xm_I) := rfl
theorem r_X11_readLine_29 : co_X11_readLine[29]? = some ((59, .iaload, 0, 0, 0, 0, 0, 0, []) : xm_I) := rfl
theorem r_X11_readLine_30 : co_X11_readLine[30]? = some ((60, .iconst 1, 0, 0, 0, 0, 1, 0, []) : xm_I) := rfl
theorem r_X11_readLine_31 : co_X11_readLine[31]? = some ((61, .iadd, 0, 0, 0, 0, 0, 0, []) : xm_I) := rfl
theorem r_X11_readLine_32 : co_X11_readLine[32]? = some ((62, .iastore, 0, 0, 0, 0, 0, 0, []) : xm_I) := rfl
theorem r_X11_readLine_33 : co_X11_readLine[33]? = some ((63, .return_, 0, 0, 0, 0, 0, 0, []) : xm_I) := rfl
theorem p_X11_readLine_0_0 {X : xm_X} {P : List xm_M} {d : Nat} {h : xm_H} {l0 : Nat} {v0 : Nat} {n1 : Nat} {h2 : xm_H} {h3 : xm_H} {r3 : Int32} {h4 : xm_H} {r4 : Int32} {v5 : Nat} {n6 : Nat} (q0 : X.1[l0]? = some (.inr 10)) (q1 : h.2.2 l0 14 = some v0) (q2 : X.1[v0]? = some (.inl (0, n1))) (q3 : 22 < n1) (q4 : h.1 v0 22 = (0 : Int32)) (q5 : xm_V X P d 201 [.ref l0] h none h2) (q6 : xm_V X P d 199 [.ref l0] h2 (some (.int r3)) h3) (q7 : r3 = (0 : Int32)) (q8 : xm_V X P d 199 [.ref l0] h3 (some (.int r4)) h4) (q9 : r4 = (0 : Int32)) (q10 : h4.2.2 l0 14 = some v5) (q11 : X.1[v5]? = some (.inl (0, n6))) (q12 : 22 < n6) : xm_E X P d co_X11_readLine 0 [some (.ref l0)] [] h none (xm_si h4 v5 22 ((h4.1 v5 22) + (1 : Int32))) := by
  refine xm_E_s r_X11_readLine_0 rfl rfl ?_
  refine xm_E_s r_X11_readLine_1 rfl (xm_T_gr rfl q0 rfl rfl q1) ?_
  refine xm_E_s r_X11_readLine_2 rfl rfl ?_
  refine xm_E_s r_X11_readLine_3 rfl (xm_T_iald rfl q2 (by decide) (fun e => e.elim (fun e => absurd e (by decide)) (fun e => Nat.not_le.mpr q3 e))) ?_
  refine xm_E_s r_X11_readLine_4 rfl rfl ?_
  refine xm_E_t q4 ?_
  refine xm_E_s r_X11_readLine_5 rfl rfl ?_
  refine xm_E_cv [.ref l0] [] r_X11_readLine_6 rfl rfl (Nat.le_of_ble_eq_true rfl) (xm_rc q0 (by decide)) rfl q5 ?_
  refine xm_E_s r_X11_readLine_7 rfl rfl ?_
  refine xm_E_s r_X11_readLine_10 rfl rfl ?_
  refine xm_E_cv [.ref l0] [] r_X11_readLine_11 rfl rfl (Nat.le_of_ble_eq_true rfl) (xm_rc q0 (by decide)) rfl q6 ?_
  refine xm_E_s r_X11_readLine_12 rfl rfl ?_
  refine xm_E_t q7 ?_
  refine xm_E_s r_X11_readLine_20 rfl rfl ?_
  refine xm_E_cv [.ref l0] [] r_X11_readLine_21 rfl rfl (Nat.le_of_ble_eq_true rfl) (xm_rc q0 (by decide)) rfl q8 ?_
  refine xm_E_s r_X11_readLine_22 rfl rfl ?_
  refine xm_E_t q9 ?_
  refine xm_E_s r_X11_readLine_25 rfl rfl ?_
  refine xm_E_s r_X11_readLine_26 rfl (xm_T_gr rfl q0 rfl rfl q10) ?_
  refine xm_E_s r_X11_readLine_27 rfl rfl ?_
  refine xm_E_s r_X11_readLine_28 rfl rfl ?_
  refine xm_E_s r_X11_readLine_29 rfl (xm_T_iald rfl q11 (by decide) (fun e => e.elim (fun e => absurd e (by decide)) (fun e => Nat.not_le.mpr q12 e))) ?_
  refine xm_E_s r_X11_readLine_30 rfl rfl ?_
  refine xm_E_s r_X11_readLine_31 rfl rfl ?_
  refine xm_E_s r_X11_readLine_32 rfl (xm_T_asi rfl q11 (fun e => e.elim (fun e => absurd e (by decide)) (fun e => Nat.not_le.mpr q12 e))) ?_
  exact xm_E_ret r_X11_readLine_33 rfl
theorem p_X11_readLine_0_1 {X : xm_X} {P : List xm_M} {d : Nat} {h : xm_H} {l0 : Nat} {v0 : Nat} {n1 : Nat} {h2 : xm_H} {h3 : xm_H} {r3 : Int32} {h4 : xm_H} {r4 : Int32} {h5 : xm_H} {v6 : Nat} {n7 : Nat} (q0 : X.1[l0]? = some (.inr 10)) (q1 : h.2.2 l0 14 = some v0) (q2 : X.1[v0]? = some (.inl (0, n1))) (q3 : 22 < n1) (q4 : h.1 v0 22 = (0 : Int32)) (q5 : xm_V X P d 201 [.ref l0] h none h2) (q6 : xm_V X P d 199 [.ref l0] h2 (some (.int r3)) h3) (q7 : r3 = (0 : Int32)) (q8 : xm_V X P d 199 [.ref l0] h3 (some (.int r4)) h4) (q9 : ¬ (r4 = (0 : Int32))) (q10 : xm_V X P d 197 [.ref l0] h4 none h5) (q11 : h5.2.2 l0 14 = some v6) (q12 : X.1[v6]? = some (.inl (0, n7))) (q13 : 22 < n7) : xm_E X P d co_X11_readLine 0 [some (.ref l0)] [] h none (xm_si h5 v6 22 ((h5.1 v6 22) + (1 : Int32))) := by
  refine xm_E_s r_X11_readLine_0 rfl rfl ?_
  refine xm_E_s r_X11_readLine_1 rfl (xm_T_gr rfl q0 rfl rfl q1) ?_
  refine xm_E_s r_X11_readLine_2 rfl rfl ?_
  refine xm_E_s r_X11_readLine_3 rfl (xm_T_iald rfl q2 (by decide) (fun e => e.elim (fun e => absurd e (by decide)) (fun e => Nat.not_le.mpr q3 e))) ?_
  refine xm_E_s r_X11_readLine_4 rfl rfl ?_
  refine xm_E_t q4 ?_
  refine xm_E_s r_X11_readLine_5 rfl rfl ?_
  refine xm_E_cv [.ref l0] [] r_X11_readLine_6 rfl rfl (Nat.le_of_ble_eq_true rfl) (xm_rc q0 (by decide)) rfl q5 ?_
  refine xm_E_s r_X11_readLine_7 rfl rfl ?_
  refine xm_E_s r_X11_readLine_10 rfl rfl ?_
  refine xm_E_cv [.ref l0] [] r_X11_readLine_11 rfl rfl (Nat.le_of_ble_eq_true rfl) (xm_rc q0 (by decide)) rfl q6 ?_
  refine xm_E_s r_X11_readLine_12 rfl rfl ?_
  refine xm_E_t q7 ?_
  refine xm_E_s r_X11_readLine_20 rfl rfl ?_
  refine xm_E_cv [.ref l0] [] r_X11_readLine_21 rfl rfl (Nat.le_of_ble_eq_true rfl) (xm_rc q0 (by decide)) rfl q8 ?_
  refine xm_E_s r_X11_readLine_22 rfl rfl ?_
  refine xm_E_f q9 ?_
  refine xm_E_s r_X11_readLine_23 rfl rfl ?_
  refine xm_E_cv [.ref l0] [] r_X11_readLine_24 rfl rfl (Nat.le_of_ble_eq_true rfl) (xm_rc q0 (by decide)) rfl q10 ?_
  refine xm_E_s r_X11_readLine_25 rfl rfl ?_
  refine xm_E_s r_X11_readLine_26 rfl (xm_T_gr rfl q0 rfl rfl q11) ?_
  refine xm_E_s r_X11_readLine_27 rfl rfl ?_
  refine xm_E_s r_X11_readLine_28 rfl rfl ?_
  refine xm_E_s r_X11_readLine_29 rfl (xm_T_iald rfl q12 (by decide) (fun e => e.elim (fun e => absurd e (by decide)) (fun e => Nat.not_le.mpr q13 e))) ?_
  refine xm_E_s r_X11_readLine_30 rfl rfl ?_
  refine xm_E_s r_X11_readLine_31 rfl rfl ?_
  refine xm_E_s r_X11_readLine_32 rfl (xm_T_asi rfl q12 (fun e => e.elim (fun e => absurd e (by decide)) (fun e => Nat.not_le.mpr q13 e))) ?_
  exact xm_E_ret r_X11_readLine_33 rfl
theorem p_X11_readLine_0_2 {X : xm_X} {P : List xm_M} {d : Nat} {h : xm_H} {l0 : Nat} {v0 : Nat} {n1 : Nat} {h2 : xm_H} {h3 : xm_H} {r3 : Int32} {h4 : xm_H} {r4 : Int32} {v5 : Nat} {n6 : Nat} (q0 : X.1[l0]? = some (.inr 10)) (q1 : h.2.2 l0 14 = some v0) (q2 : X.1[v0]? = some (.inl (0, n1))) (q3 : 22 < n1) (q4 : h.1 v0 22 = (0 : Int32)) (q5 : xm_V X P d 201 [.ref l0] h none h2) (q6 : xm_V X P d 199 [.ref l0] h2 (some (.int r3)) h3) (q7 : ¬ (r3 = (0 : Int32))) (q8 : h3.1 l0 10 = (3 : Int32)) (q9 : xm_V X P d 199 [.ref l0] h3 (some (.int r4)) h4) (q10 : r4 = (0 : Int32)) (q11 : h4.2.2 l0 14 = some v5) (q12 : X.1[v5]? = some (.inl (0, n6))) (q13 : 22 < n6) : xm_E X P d co_X11_readLine 0 [some (.ref l0)] [] h none (xm_si h4 v5 22 ((h4.1 v5 22) + (1 : Int32))) := by
  refine xm_E_s r_X11_readLine_0 rfl rfl ?_
  refine xm_E_s r_X11_readLine_1 rfl (xm_T_gr rfl q0 rfl rfl q1) ?_
  refine xm_E_s r_X11_readLine_2 rfl rfl ?_
  refine xm_E_s r_X11_readLine_3 rfl (xm_T_iald rfl q2 (by decide) (fun e => e.elim (fun e => absurd e (by decide)) (fun e => Nat.not_le.mpr q3 e))) ?_
  refine xm_E_s r_X11_readLine_4 rfl rfl ?_
  refine xm_E_t q4 ?_
  refine xm_E_s r_X11_readLine_5 rfl rfl ?_
  refine xm_E_cv [.ref l0] [] r_X11_readLine_6 rfl rfl (Nat.le_of_ble_eq_true rfl) (xm_rc q0 (by decide)) rfl q5 ?_
  refine xm_E_s r_X11_readLine_7 rfl rfl ?_
  refine xm_E_s r_X11_readLine_10 rfl rfl ?_
  refine xm_E_cv [.ref l0] [] r_X11_readLine_11 rfl rfl (Nat.le_of_ble_eq_true rfl) (xm_rc q0 (by decide)) rfl q6 ?_
  refine xm_E_s r_X11_readLine_12 rfl rfl ?_
  refine xm_E_f q7 ?_
  refine xm_E_s r_X11_readLine_13 rfl rfl ?_
  refine xm_E_s r_X11_readLine_14 rfl (xm_T_gi rfl q0 rfl (Or.inl rfl)) ?_
  refine xm_E_s r_X11_readLine_15 rfl rfl ?_
  refine xm_E_s r_X11_readLine_16 rfl rfl ?_
  refine xm_E_t q8 ?_
  refine xm_E_s r_X11_readLine_20 rfl rfl ?_
  refine xm_E_cv [.ref l0] [] r_X11_readLine_21 rfl rfl (Nat.le_of_ble_eq_true rfl) (xm_rc q0 (by decide)) rfl q9 ?_
  refine xm_E_s r_X11_readLine_22 rfl rfl ?_
  refine xm_E_t q10 ?_
  refine xm_E_s r_X11_readLine_25 rfl rfl ?_
  refine xm_E_s r_X11_readLine_26 rfl (xm_T_gr rfl q0 rfl rfl q11) ?_
  refine xm_E_s r_X11_readLine_27 rfl rfl ?_
  refine xm_E_s r_X11_readLine_28 rfl rfl ?_
  refine xm_E_s r_X11_readLine_29 rfl (xm_T_iald rfl q12 (by decide) (fun e => e.elim (fun e => absurd e (by decide)) (fun e => Nat.not_le.mpr q13 e))) ?_
  refine xm_E_s r_X11_readLine_30 rfl rfl ?_
  refine xm_E_s r_X11_readLine_31 rfl rfl ?_
  refine xm_E_s r_X11_readLine_32 rfl (xm_T_asi rfl q12 (fun e => e.elim (fun e => absurd e (by decide)) (fun e => Nat.not_le.mpr q13 e))) ?_
  exact xm_E_ret r_X11_readLine_33 rfl
theorem p_X11_readLine_0_3 {X : xm_X} {P : List xm_M} {d : Nat} {h : xm_H} {l0 : Nat} {v0 : Nat} {n1 : Nat} {h2 : xm_H} {h3 : xm_H} {r3 : Int32} {h4 : xm_H} {r4 : Int32} {h5 : xm_H} {v6 : Nat} {n7 : Nat} (q0 : X.1[l0]? = some (.inr 10)) (q1 : h.2.2 l0 14 = some v0) (q2 : X.1[v0]? = some (.inl (0, n1))) (q3 : 22 < n1) (q4 : h.1 v0 22 = (0 : Int32)) (q5 : xm_V X P d 201 [.ref l0] h none h2) (q6 : xm_V X P d 199 [.ref l0] h2 (some (.int r3)) h3) (q7 : ¬ (r3 = (0 : Int32))) (q8 : h3.1 l0 10 = (3 : Int32)) (q9 : xm_V X P d 199 [.ref l0] h3 (some (.int r4)) h4) (q10 : ¬ (r4 = (0 : Int32))) (q11 : xm_V X P d 197 [.ref l0] h4 none h5) (q12 : h5.2.2 l0 14 = some v6) (q13 : X.1[v6]? = some (.inl (0, n7))) (q14 : 22 < n7) : xm_E X P d co_X11_readLine 0 [some (.ref l0)] [] h none (xm_si h5 v6 22 ((h5.1 v6 22) + (1 : Int32))) := by
  refine xm_E_s r_X11_readLine_0 rfl rfl ?_
  refine xm_E_s r_X11_readLine_1 rfl (xm_T_gr rfl q0 rfl rfl q1) ?_
  refine xm_E_s r_X11_readLine_2 rfl rfl ?_
  refine xm_E_s r_X11_readLine_3 rfl (xm_T_iald rfl q2 (by decide) (fun e => e.elim (fun e => absurd e (by decide)) (fun e => Nat.not_le.mpr q3 e))) ?_
  refine xm_E_s r_X11_readLine_4 rfl rfl ?_
  refine xm_E_t q4 ?_
  refine xm_E_s r_X11_readLine_5 rfl rfl ?_
  refine xm_E_cv [.ref l0] [] r_X11_readLine_6 rfl rfl (Nat.le_of_ble_eq_true rfl) (xm_rc q0 (by decide)) rfl q5 ?_
  refine xm_E_s r_X11_readLine_7 rfl rfl ?_
  refine xm_E_s r_X11_readLine_10 rfl rfl ?_
  refine xm_E_cv [.ref l0] [] r_X11_readLine_11 rfl rfl (Nat.le_of_ble_eq_true rfl) (xm_rc q0 (by decide)) rfl q6 ?_
  refine xm_E_s r_X11_readLine_12 rfl rfl ?_
  refine xm_E_f q7 ?_
  refine xm_E_s r_X11_readLine_13 rfl rfl ?_
  refine xm_E_s r_X11_readLine_14 rfl (xm_T_gi rfl q0 rfl (Or.inl rfl)) ?_
  refine xm_E_s r_X11_readLine_15 rfl rfl ?_
  refine xm_E_s r_X11_readLine_16 rfl rfl ?_
  refine xm_E_t q8 ?_
  refine xm_E_s r_X11_readLine_20 rfl rfl ?_
  refine xm_E_cv [.ref l0] [] r_X11_readLine_21 rfl rfl (Nat.le_of_ble_eq_true rfl) (xm_rc q0 (by decide)) rfl q9 ?_
  refine xm_E_s r_X11_readLine_22 rfl rfl ?_
  refine xm_E_f q10 ?_
  refine xm_E_s r_X11_readLine_23 rfl rfl ?_
  refine xm_E_cv [.ref l0] [] r_X11_readLine_24 rfl rfl (Nat.le_of_ble_eq_true rfl) (xm_rc q0 (by decide)) rfl q11 ?_
  refine xm_E_s r_X11_readLine_25 rfl rfl ?_
  refine xm_E_s r_X11_readLine_26 rfl (xm_T_gr rfl q0 rfl rfl q12) ?_
  refine xm_E_s r_X11_readLine_27 rfl rfl ?_
  refine xm_E_s r_X11_readLine_28 rfl rfl ?_
  refine xm_E_s r_X11_readLine_29 rfl (xm_T_iald rfl q13 (by decide) (fun e => e.elim (fun e => absurd e (by decide)) (fun e => Nat.not_le.mpr q14 e))) ?_
  refine xm_E_s r_X11_readLine_30 rfl rfl ?_
  refine xm_E_s r_X11_readLine_31 rfl rfl ?_
  refine xm_E_s r_X11_readLine_32 rfl (xm_T_asi rfl q13 (fun e => e.elim (fun e => absurd e (by decide)) (fun e => Nat.not_le.mpr q14 e))) ?_
  exact xm_E_ret r_X11_readLine_33 rfl
theorem p_X11_readLine_0_4 {X : xm_X} {P : List xm_M} {d : Nat} {h : xm_H} {l0 : Nat} {v0 : Nat} {n1 : Nat} {h2 : xm_H} {h3 : xm_H} {r3 : Int32} {h4 : xm_H} {h5 : xm_H} {r5 : Int32} {v6 : Nat} {n7 : Nat} (q0 : X.1[l0]? = some (.inr 10)) (q1 : h.2.2 l0 14 = some v0) (q2 : X.1[v0]? = some (.inl (0, n1))) (q3 : 22 < n1) (q4 : h.1 v0 22 = (0 : Int32)) (q5 : xm_V X P d 201 [.ref l0] h none h2) (q6 : xm_V X P d 199 [.ref l0] h2 (some (.int r3)) h3) (q7 : ¬ (r3 = (0 : Int32))) (q8 : ¬ (h3.1 l0 10 = (3 : Int32))) (q9 : xm_V X P d 205 [.ref l0, .int (1 : Int32)] h3 none h4) (q10 : xm_V X P d 199 [.ref l0] h4 (some (.int r5)) h5) (q11 : r5 = (0 : Int32)) (q12 : h5.2.2 l0 14 = some v6) (q13 : X.1[v6]? = some (.inl (0, n7))) (q14 : 22 < n7) : xm_E X P d co_X11_readLine 0 [some (.ref l0)] [] h none (xm_si h5 v6 22 ((h5.1 v6 22) + (1 : Int32))) := by
  refine xm_E_s r_X11_readLine_0 rfl rfl ?_
  refine xm_E_s r_X11_readLine_1 rfl (xm_T_gr rfl q0 rfl rfl q1) ?_
  refine xm_E_s r_X11_readLine_2 rfl rfl ?_
  refine xm_E_s r_X11_readLine_3 rfl (xm_T_iald rfl q2 (by decide) (fun e => e.elim (fun e => absurd e (by decide)) (fun e => Nat.not_le.mpr q3 e))) ?_
  refine xm_E_s r_X11_readLine_4 rfl rfl ?_
  refine xm_E_t q4 ?_
  refine xm_E_s r_X11_readLine_5 rfl rfl ?_
  refine xm_E_cv [.ref l0] [] r_X11_readLine_6 rfl rfl (Nat.le_of_ble_eq_true rfl) (xm_rc q0 (by decide)) rfl q5 ?_
  refine xm_E_s r_X11_readLine_7 rfl rfl ?_
  refine xm_E_s r_X11_readLine_10 rfl rfl ?_
  refine xm_E_cv [.ref l0] [] r_X11_readLine_11 rfl rfl (Nat.le_of_ble_eq_true rfl) (xm_rc q0 (by decide)) rfl q6 ?_
  refine xm_E_s r_X11_readLine_12 rfl rfl ?_
  refine xm_E_f q7 ?_
  refine xm_E_s r_X11_readLine_13 rfl rfl ?_
  refine xm_E_s r_X11_readLine_14 rfl (xm_T_gi rfl q0 rfl (Or.inl rfl)) ?_
  refine xm_E_s r_X11_readLine_15 rfl rfl ?_
  refine xm_E_s r_X11_readLine_16 rfl rfl ?_
  refine xm_E_f q8 ?_
  refine xm_E_s r_X11_readLine_17 rfl rfl ?_
  refine xm_E_s r_X11_readLine_18 rfl rfl ?_
  refine xm_E_cv [.ref l0, .int (1 : Int32)] [] r_X11_readLine_19 rfl rfl (Nat.le_of_ble_eq_true rfl) (xm_rc q0 (by decide)) rfl q9 ?_
  refine xm_E_s r_X11_readLine_20 rfl rfl ?_
  refine xm_E_cv [.ref l0] [] r_X11_readLine_21 rfl rfl (Nat.le_of_ble_eq_true rfl) (xm_rc q0 (by decide)) rfl q10 ?_
  refine xm_E_s r_X11_readLine_22 rfl rfl ?_
  refine xm_E_t q11 ?_
  refine xm_E_s r_X11_readLine_25 rfl rfl ?_
  refine xm_E_s r_X11_readLine_26 rfl (xm_T_gr rfl q0 rfl rfl q12) ?_
  refine xm_E_s r_X11_readLine_27 rfl rfl ?_
  refine xm_E_s r_X11_readLine_28 rfl rfl ?_
  refine xm_E_s r_X11_readLine_29 rfl (xm_T_iald rfl q13 (by decide) (fun e => e.elim (fun e => absurd e (by decide)) (fun e => Nat.not_le.mpr q14 e))) ?_
  refine xm_E_s r_X11_readLine_30 rfl rfl ?_
  refine xm_E_s r_X11_readLine_31 rfl rfl ?_
  refine xm_E_s r_X11_readLine_32 rfl (xm_T_asi rfl q13 (fun e => e.elim (fun e => absurd e (by decide)) (fun e => Nat.not_le.mpr q14 e))) ?_
  exact xm_E_ret r_X11_readLine_33 rfl
theorem p_X11_readLine_0_5 {X : xm_X} {P : List xm_M} {d : Nat} {h : xm_H} {l0 : Nat} {v0 : Nat} {n1 : Nat} {h2 : xm_H} {h3 : xm_H} {r3 : Int32} {h4 : xm_H} {h5 : xm_H} {r5 : Int32} {h6 : xm_H} {v7 : Nat} {n8 : Nat} (q0 : X.1[l0]? = some (.inr 10)) (q1 : h.2.2 l0 14 = some v0) (q2 : X.1[v0]? = some (.inl (0, n1))) (q3 : 22 < n1) (q4 : h.1 v0 22 = (0 : Int32)) (q5 : xm_V X P d 201 [.ref l0] h none h2) (q6 : xm_V X P d 199 [.ref l0] h2 (some (.int r3)) h3) (q7 : ¬ (r3 = (0 : Int32))) (q8 : ¬ (h3.1 l0 10 = (3 : Int32))) (q9 : xm_V X P d 205 [.ref l0, .int (1 : Int32)] h3 none h4) (q10 : xm_V X P d 199 [.ref l0] h4 (some (.int r5)) h5) (q11 : ¬ (r5 = (0 : Int32))) (q12 : xm_V X P d 197 [.ref l0] h5 none h6) (q13 : h6.2.2 l0 14 = some v7) (q14 : X.1[v7]? = some (.inl (0, n8))) (q15 : 22 < n8) : xm_E X P d co_X11_readLine 0 [some (.ref l0)] [] h none (xm_si h6 v7 22 ((h6.1 v7 22) + (1 : Int32))) := by
  refine xm_E_s r_X11_readLine_0 rfl rfl ?_
  refine xm_E_s r_X11_readLine_1 rfl (xm_T_gr rfl q0 rfl rfl q1) ?_
  refine xm_E_s r_X11_readLine_2 rfl rfl ?_
  refine xm_E_s r_X11_readLine_3 rfl (xm_T_iald rfl q2 (by decide) (fun e => e.elim (fun e => absurd e (by decide)) (fun e => Nat.not_le.mpr q3 e))) ?_
  refine xm_E_s r_X11_readLine_4 rfl rfl ?_
  refine xm_E_t q4 ?_
  refine xm_E_s r_X11_readLine_5 rfl rfl ?_
  refine xm_E_cv [.ref l0] [] r_X11_readLine_6 rfl rfl (Nat.le_of_ble_eq_true rfl) (xm_rc q0 (by decide)) rfl q5 ?_
  refine xm_E_s r_X11_readLine_7 rfl rfl ?_
  refine xm_E_s r_X11_readLine_10 rfl rfl ?_
  refine xm_E_cv [.ref l0] [] r_X11_readLine_11 rfl rfl (Nat.le_of_ble_eq_true rfl) (xm_rc q0 (by decide)) rfl q6 ?_
  refine xm_E_s r_X11_readLine_12 rfl rfl ?_
  refine xm_E_f q7 ?_
  refine xm_E_s r_X11_readLine_13 rfl rfl ?_
  refine xm_E_s r_X11_readLine_14 rfl (xm_T_gi rfl q0 rfl (Or.inl rfl)) ?_
  refine xm_E_s r_X11_readLine_15 rfl rfl ?_
  refine xm_E_s r_X11_readLine_16 rfl rfl ?_
  refine xm_E_f q8 ?_
  refine xm_E_s r_X11_readLine_17 rfl rfl ?_
  refine xm_E_s r_X11_readLine_18 rfl rfl ?_
  refine xm_E_cv [.ref l0, .int (1 : Int32)] [] r_X11_readLine_19 rfl rfl (Nat.le_of_ble_eq_true rfl) (xm_rc q0 (by decide)) rfl q9 ?_
  refine xm_E_s r_X11_readLine_20 rfl rfl ?_
  refine xm_E_cv [.ref l0] [] r_X11_readLine_21 rfl rfl (Nat.le_of_ble_eq_true rfl) (xm_rc q0 (by decide)) rfl q10 ?_
  refine xm_E_s r_X11_readLine_22 rfl rfl ?_
  refine xm_E_f q11 ?_
  refine xm_E_s r_X11_readLine_23 rfl rfl ?_
  refine xm_E_cv [.ref l0] [] r_X11_readLine_24 rfl rfl (Nat.le_of_ble_eq_true rfl) (xm_rc q0 (by decide)) rfl q12 ?_
  refine xm_E_s r_X11_readLine_25 rfl rfl ?_
  refine xm_E_s r_X11_readLine_26 rfl (xm_T_gr rfl q0 rfl rfl q13) ?_
  refine xm_E_s r_X11_readLine_27 rfl rfl ?_
  refine xm_E_s r_X11_readLine_28 rfl rfl ?_
  refine xm_E_s r_X11_readLine_29 rfl (xm_T_iald rfl q14 (by decide) (fun e => e.elim (fun e => absurd e (by decide)) (fun e => Nat.not_le.mpr q15 e))) ?_
  refine xm_E_s r_X11_readLine_30 rfl rfl ?_
  refine xm_E_s r_X11_readLine_31 rfl rfl ?_
  refine xm_E_s r_X11_readLine_32 rfl (xm_T_asi rfl q14 (fun e => e.elim (fun e => absurd e (by decide)) (fun e => Nat.not_le.mpr q15 e))) ?_
  exact xm_E_ret r_X11_readLine_33 rfl
theorem p_X11_readLine_0_6 {X : xm_X} {P : List xm_M} {d : Nat} {h : xm_H} {l0 : Nat} {v0 : Nat} {n1 : Nat} {h2 : xm_H} {h3 : xm_H} {r3 : Int32} {h4 : xm_H} {r4 : Int32} {v5 : Nat} {n6 : Nat} (q0 : X.1[l0]? = some (.inr 10)) (q1 : h.2.2 l0 14 = some v0) (q2 : X.1[v0]? = some (.inl (0, n1))) (q3 : 22 < n1) (q4 : ¬ (h.1 v0 22 = (0 : Int32))) (q5 : xm_V X P d 208 [.ref l0] h none h2) (q6 : xm_V X P d 199 [.ref l0] h2 (some (.int r3)) h3) (q7 : r3 = (0 : Int32)) (q8 : xm_V X P d 199 [.ref l0] h3 (some (.int r4)) h4) (q9 : r4 = (0 : Int32)) (q10 : h4.2.2 l0 14 = some v5) (q11 : X.1[v5]? = some (.inl (0, n6))) (q12 : 22 < n6) : xm_E X P d co_X11_readLine 0 [some (.ref l0)] [] h none (xm_si h4 v5 22 ((h4.1 v5 22) + (1 : Int32))) := by
  refine xm_E_s r_X11_readLine_0 rfl rfl ?_
  refine xm_E_s r_X11_readLine_1 rfl (xm_T_gr rfl q0 rfl rfl q1) ?_
  refine xm_E_s r_X11_readLine_2 rfl rfl ?_
  refine xm_E_s r_X11_readLine_3 rfl (xm_T_iald rfl q2 (by decide) (fun e => e.elim (fun e => absurd e (by decide)) (fun e => Nat.not_le.mpr q3 e))) ?_
  refine xm_E_s r_X11_readLine_4 rfl rfl ?_
  refine xm_E_f q4 ?_
  refine xm_E_s r_X11_readLine_8 rfl rfl ?_
  refine xm_E_cv [.ref l0] [] r_X11_readLine_9 rfl rfl (Nat.le_of_ble_eq_true rfl) (xm_rc q0 (by decide)) rfl q5 ?_
  refine xm_E_s r_X11_readLine_10 rfl rfl ?_
  refine xm_E_cv [.ref l0] [] r_X11_readLine_11 rfl rfl (Nat.le_of_ble_eq_true rfl) (xm_rc q0 (by decide)) rfl q6 ?_
  refine xm_E_s r_X11_readLine_12 rfl rfl ?_
  refine xm_E_t q7 ?_
  refine xm_E_s r_X11_readLine_20 rfl rfl ?_
  refine xm_E_cv [.ref l0] [] r_X11_readLine_21 rfl rfl (Nat.le_of_ble_eq_true rfl) (xm_rc q0 (by decide)) rfl q8 ?_
  refine xm_E_s r_X11_readLine_22 rfl rfl ?_
  refine xm_E_t q9 ?_
  refine xm_E_s r_X11_readLine_25 rfl rfl ?_
  refine xm_E_s r_X11_readLine_26 rfl (xm_T_gr rfl q0 rfl rfl q10) ?_
  refine xm_E_s r_X11_readLine_27 rfl rfl ?_
  refine xm_E_s r_X11_readLine_28 rfl rfl ?_
  refine xm_E_s r_X11_readLine_29 rfl (xm_T_iald rfl q11 (by decide) (fun e => e.elim (fun e => absurd e (by decide)) (fun e => Nat.not_le.mpr q12 e))) ?_
  refine xm_E_s r_X11_readLine_30 rfl rfl ?_
  refine xm_E_s r_X11_readLine_31 rfl rfl ?_
  refine xm_E_s r_X11_readLine_32 rfl (xm_T_asi rfl q11 (fun e => e.elim (fun e => absurd e (by decide)) (fun e => Nat.not_le.mpr q12 e))) ?_
  exact xm_E_ret r_X11_readLine_33 rfl
theorem p_X11_readLine_0_7 {X : xm_X} {P : List xm_M} {d : Nat} {h : xm_H} {l0 : Nat} {v0 : Nat} {n1 : Nat} {h2 : xm_H} {h3 : xm_H} {r3 : Int32} {h4 : xm_H} {r4 : Int32} {h5 : xm_H} {v6 : Nat} {n7 : Nat} (q0 : X.1[l0]? = some (.inr 10)) (q1 : h.2.2 l0 14 = some v0) (q2 : X.1[v0]? = some (.inl (0, n1))) (q3 : 22 < n1) (q4 : ¬ (h.1 v0 22 = (0 : Int32))) (q5 : xm_V X P d 208 [.ref l0] h none h2) (q6 : xm_V X P d 199 [.ref l0] h2 (some (.int r3)) h3) (q7 : r3 = (0 : Int32)) (q8 : xm_V X P d 199 [.ref l0] h3 (some (.int r4)) h4) (q9 : ¬ (r4 = (0 : Int32))) (q10 : xm_V X P d 197 [.ref l0] h4 none h5) (q11 : h5.2.2 l0 14 = some v6) (q12 : X.1[v6]? = some (.inl (0, n7))) (q13 : 22 < n7) : xm_E X P d co_X11_readLine 0 [some (.ref l0)] [] h none (xm_si h5 v6 22 ((h5.1 v6 22) + (1 : Int32))) := by
  refine xm_E_s r_X11_readLine_0 rfl rfl ?_
  refine xm_E_s r_X11_readLine_1 rfl (xm_T_gr rfl q0 rfl rfl q1) ?_
  refine xm_E_s r_X11_readLine_2 rfl rfl ?_
  refine xm_E_s r_X11_readLine_3 rfl (xm_T_iald rfl q2 (by decide) (fun e => e.elim (fun e => absurd e (by decide)) (fun e => Nat.not_le.mpr q3 e))) ?_
  refine xm_E_s r_X11_readLine_4 rfl rfl ?_
  refine xm_E_f q4 ?_
  refine xm_E_s r_X11_readLine_8 rfl rfl ?_
  refine xm_E_cv [.ref l0] [] r_X11_readLine_9 rfl rfl (Nat.le_of_ble_eq_true rfl) (xm_rc q0 (by decide)) rfl q5 ?_
  refine xm_E_s r_X11_readLine_10 rfl rfl ?_
  refine xm_E_cv [.ref l0] [] r_X11_readLine_11 rfl rfl (Nat.le_of_ble_eq_true rfl) (xm_rc q0 (by decide)) rfl q6 ?_
  refine xm_E_s r_X11_readLine_12 rfl rfl ?_
  refine xm_E_t q7 ?_
  refine xm_E_s r_X11_readLine_20 rfl rfl ?_
  refine xm_E_cv [.ref l0] [] r_X11_readLine_21 rfl rfl (Nat.le_of_ble_eq_true rfl) (xm_rc q0 (by decide)) rfl q8 ?_
  refine xm_E_s r_X11_readLine_22 rfl rfl ?_
  refine xm_E_f q9 ?_
  refine xm_E_s r_X11_readLine_23 rfl rfl ?_
  refine xm_E_cv [.ref l0] [] r_X11_readLine_24 rfl rfl (Nat.le_of_ble_eq_true rfl) (xm_rc q0 (by decide)) rfl q10 ?_
  refine xm_E_s r_X11_readLine_25 rfl rfl ?_
  refine xm_E_s r_X11_readLine_26 rfl (xm_T_gr rfl q0 rfl rfl q11) ?_
  refine xm_E_s r_X11_readLine_27 rfl rfl ?_
  refine xm_E_s r_X11_readLine_28 rfl rfl ?_
  refine xm_E_s r_X11_readLine_29 rfl (xm_T_iald rfl q12 (by decide) (fun e => e.elim (fun e => absurd e (by decide)) (fun e => Nat.not_le.mpr q13 e))) ?_
  refine xm_E_s r_X11_readLine_30 rfl rfl ?_
  refine xm_E_s r_X11_readLine_31 rfl rfl ?_
  refine xm_E_s r_X11_readLine_32 rfl (xm_T_asi rfl q12 (fun e => e.elim (fun e => absurd e (by decide)) (fun e => Nat.not_le.mpr q13 e))) ?_
  exact xm_E_ret r_X11_readLine_33 rfl
theorem p_X11_readLine_0_8 {X : xm_X} {P : List xm_M} {d : Nat} {h : xm_H} {l0 : Nat} {v0 : Nat} {n1 : Nat} {h2 : xm_H} {h3 : xm_H} {r3 : Int32} {h4 : xm_H} {r4 : Int32} {v5 : Nat} {n6 : Nat} (q0 : X.1[l0]? = some (.inr 10)) (q1 : h.2.2 l0 14 = some v0) (q2 : X.1[v0]? = some (.inl (0, n1))) (q3 : 22 < n1) (q4 : ¬ (h.1 v0 22 = (0 : Int32))) (q5 : xm_V X P d 208 [.ref l0] h none h2) (q6 : xm_V X P d 199 [.ref l0] h2 (some (.int r3)) h3) (q7 : ¬ (r3 = (0 : Int32))) (q8 : h3.1 l0 10 = (3 : Int32)) (q9 : xm_V X P d 199 [.ref l0] h3 (some (.int r4)) h4) (q10 : r4 = (0 : Int32)) (q11 : h4.2.2 l0 14 = some v5) (q12 : X.1[v5]? = some (.inl (0, n6))) (q13 : 22 < n6) : xm_E X P d co_X11_readLine 0 [some (.ref l0)] [] h none (xm_si h4 v5 22 ((h4.1 v5 22) + (1 : Int32))) := by
  refine xm_E_s r_X11_readLine_0 rfl rfl ?_
  refine xm_E_s r_X11_readLine_1 rfl (xm_T_gr rfl q0 rfl rfl q1) ?_
  refine xm_E_s r_X11_readLine_2 rfl rfl ?_
  refine xm_E_s r_X11_readLine_3 rfl (xm_T_iald rfl q2 (by decide) (fun e => e.elim (fun e => absurd e (by decide)) (fun e => Nat.not_le.mpr q3 e))) ?_
  refine xm_E_s r_X11_readLine_4 rfl rfl ?_
  refine xm_E_f q4 ?_
  refine xm_E_s r_X11_readLine_8 rfl rfl ?_
  refine xm_E_cv [.ref l0] [] r_X11_readLine_9 rfl rfl (Nat.le_of_ble_eq_true rfl) (xm_rc q0 (by decide)) rfl q5 ?_
  refine xm_E_s r_X11_readLine_10 rfl rfl ?_
  refine xm_E_cv [.ref l0] [] r_X11_readLine_11 rfl rfl (Nat.le_of_ble_eq_true rfl) (xm_rc q0 (by decide)) rfl q6 ?_
  refine xm_E_s r_X11_readLine_12 rfl rfl ?_
  refine xm_E_f q7 ?_
  refine xm_E_s r_X11_readLine_13 rfl rfl ?_
  refine xm_E_s r_X11_readLine_14 rfl (xm_T_gi rfl q0 rfl (Or.inl rfl)) ?_
  refine xm_E_s r_X11_readLine_15 rfl rfl ?_
  refine xm_E_s r_X11_readLine_16 rfl rfl ?_
  refine xm_E_t q8 ?_
  refine xm_E_s r_X11_readLine_20 rfl rfl ?_
  refine xm_E_cv [.ref l0] [] r_X11_readLine_21 rfl rfl (Nat.le_of_ble_eq_true rfl) (xm_rc q0 (by decide)) rfl q9 ?_
  refine xm_E_s r_X11_readLine_22 rfl rfl ?_
  refine xm_E_t q10 ?_
  refine xm_E_s r_X11_readLine_25 rfl rfl ?_
  refine xm_E_s r_X11_readLine_26 rfl (xm_T_gr rfl q0 rfl rfl q11) ?_
  refine xm_E_s r_X11_readLine_27 rfl rfl ?_
  refine xm_E_s r_X11_readLine_28 rfl rfl ?_
  refine xm_E_s r_X11_readLine_29 rfl (xm_T_iald rfl q12 (by decide) (fun e => e.elim (fun e => absurd e (by decide)) (fun e => Nat.not_le.mpr q13 e))) ?_
  refine xm_E_s r_X11_readLine_30 rfl rfl ?_
  refine xm_E_s r_X11_readLine_31 rfl rfl ?_
  refine xm_E_s r_X11_readLine_32 rfl (xm_T_asi rfl q12 (fun e => e.elim (fun e => absurd e (by decide)) (fun e => Nat.not_le.mpr q13 e))) ?_
  exact xm_E_ret r_X11_readLine_33 rfl
theorem p_X11_readLine_0_9 {X : xm_X} {P : List xm_M} {d : Nat} {h : xm_H} {l0 : Nat} {v0 : Nat} {n1 : Nat} {h2 : xm_H} {h3 : xm_H} {r3 : Int32} {h4 : xm_H} {r4 : Int32} {h5 : xm_H} {v6 : Nat} {n7 : Nat} (q0 : X.1[l0]? = some (.inr 10)) (q1 : h.2.2 l0 14 = some v0) (q2 : X.1[v0]? = some (.inl (0, n1))) (q3 : 22 < n1) (q4 : ¬ (h.1 v0 22 = (0 : Int32))) (q5 : xm_V X P d 208 [.ref l0] h none h2) (q6 : xm_V X P d 199 [.ref l0] h2 (some (.int r3)) h3) (q7 : ¬ (r3 = (0 : Int32))) (q8 : h3.1 l0 10 = (3 : Int32)) (q9 : xm_V X P d 199 [.ref l0] h3 (some (.int r4)) h4) (q10 : ¬ (r4 = (0 : Int32))) (q11 : xm_V X P d 197 [.ref l0] h4 none h5) (q12 : h5.2.2 l0 14 = some v6) (q13 : X.1[v6]? = some (.inl (0, n7))) (q14 : 22 < n7) : xm_E X P d co_X11_readLine 0 [some (.ref l0)] [] h none (xm_si h5 v6 22 ((h5.1 v6 22) + (1 : Int32))) := by
  refine xm_E_s r_X11_readLine_0 rfl rfl ?_
  refine xm_E_s r_X11_readLine_1 rfl (xm_T_gr rfl q0 rfl rfl q1) ?_
  refine xm_E_s r_X11_readLine_2 rfl rfl ?_
  refine xm_E_s r_X11_readLine_3 rfl (xm_T_iald rfl q2 (by decide) (fun e => e.elim (fun e => absurd e (by decide)) (fun e => Nat.not_le.mpr q3 e))) ?_
  refine xm_E_s r_X11_readLine_4 rfl rfl ?_
  refine xm_E_f q4 ?_
  refine xm_E_s r_X11_readLine_8 rfl rfl ?_
  refine xm_E_cv [.ref l0] [] r_X11_readLine_9 rfl rfl (Nat.le_of_ble_eq_true rfl) (xm_rc q0 (by decide)) rfl q5 ?_
  refine xm_E_s r_X11_readLine_10 rfl rfl ?_
  refine xm_E_cv [.ref l0] [] r_X11_readLine_11 rfl rfl (Nat.le_of_ble_eq_true rfl) (xm_rc q0 (by decide)) rfl q6 ?_
  refine xm_E_s r_X11_readLine_12 rfl rfl ?_
  refine xm_E_f q7 ?_
  refine xm_E_s r_X11_readLine_13 rfl rfl ?_
  refine xm_E_s r_X11_readLine_14 rfl (xm_T_gi rfl q0 rfl (Or.inl rfl)) ?_
  refine xm_E_s r_X11_readLine_15 rfl rfl ?_
  refine xm_E_s r_X11_readLine_16 rfl rfl ?_
  refine xm_E_t q8 ?_
  refine xm_E_s r_X11_readLine_20 rfl rfl ?_
  refine xm_E_cv [.ref l0] [] r_X11_readLine_21 rfl rfl (Nat.le_of_ble_eq_true rfl) (xm_rc q0 (by decide)) rfl q9 ?_
  refine xm_E_s r_X11_readLine_22 rfl rfl ?_
  refine xm_E_f q10 ?_
  refine xm_E_s r_X11_readLine_23 rfl rfl ?_
  refine xm_E_cv [.ref l0] [] r_X11_readLine_24 rfl rfl (Nat.le_of_ble_eq_true rfl) (xm_rc q0 (by decide)) rfl q11 ?_
  refine xm_E_s r_X11_readLine_25 rfl rfl ?_
  refine xm_E_s r_X11_readLine_26 rfl (xm_T_gr rfl q0 rfl rfl q12) ?_
  refine xm_E_s r_X11_readLine_27 rfl rfl ?_
  refine xm_E_s r_X11_readLine_28 rfl rfl ?_
  refine xm_E_s r_X11_readLine_29 rfl (xm_T_iald rfl q13 (by decide) (fun e => e.elim (fun e => absurd e (by decide)) (fun e => Nat.not_le.mpr q14 e))) ?_
  refine xm_E_s r_X11_readLine_30 rfl rfl ?_
  refine xm_E_s r_X11_readLine_31 rfl rfl ?_
  refine xm_E_s r_X11_readLine_32 rfl (xm_T_asi rfl q13 (fun e => e.elim (fun e => absurd e (by decide)) (fun e => Nat.not_le.mpr q14 e))) ?_
  exact xm_E_ret r_X11_readLine_33 rfl
theorem p_X11_readLine_0_10 {X : xm_X} {P : List xm_M} {d : Nat} {h : xm_H} {l0 : Nat} {v0 : Nat} {n1 : Nat} {h2 : xm_H} {h3 : xm_H} {r3 : Int32} {h4 : xm_H} {h5 : xm_H} {r5 : Int32} {v6 : Nat} {n7 : Nat} (q0 : X.1[l0]? = some (.inr 10)) (q1 : h.2.2 l0 14 = some v0) (q2 : X.1[v0]? = some (.inl (0, n1))) (q3 : 22 < n1) (q4 : ¬ (h.1 v0 22 = (0 : Int32))) (q5 : xm_V X P d 208 [.ref l0] h none h2) (q6 : xm_V X P d 199 [.ref l0] h2 (some (.int r3)) h3) (q7 : ¬ (r3 = (0 : Int32))) (q8 : ¬ (h3.1 l0 10 = (3 : Int32))) (q9 : xm_V X P d 205 [.ref l0, .int (1 : Int32)] h3 none h4) (q10 : xm_V X P d 199 [.ref l0] h4 (some (.int r5)) h5) (q11 : r5 = (0 : Int32)) (q12 : h5.2.2 l0 14 = some v6) (q13 : X.1[v6]? = some (.inl (0, n7))) (q14 : 22 < n7) : xm_E X P d co_X11_readLine 0 [some (.ref l0)] [] h none (xm_si h5 v6 22 ((h5.1 v6 22) + (1 : Int32))) := by
  refine xm_E_s r_X11_readLine_0 rfl rfl ?_
  refine xm_E_s r_X11_readLine_1 rfl (xm_T_gr rfl q0 rfl rfl q1) ?_
  refine xm_E_s r_X11_readLine_2 rfl rfl ?_
  refine xm_E_s r_X11_readLine_3 rfl (xm_T_iald rfl q2 (by decide) (fun e => e.elim (fun e => absurd e (by decide)) (fun e => Nat.not_le.mpr q3 e))) ?_
  refine xm_E_s r_X11_readLine_4 rfl rfl ?_
  refine xm_E_f q4 ?_
  refine xm_E_s r_X11_readLine_8 rfl rfl ?_
  refine xm_E_cv [.ref l0] [] r_X11_readLine_9 rfl rfl (Nat.le_of_ble_eq_true rfl) (xm_rc q0 (by decide)) rfl q5 ?_
  refine xm_E_s r_X11_readLine_10 rfl rfl ?_
  refine xm_E_cv [.ref l0] [] r_X11_readLine_11 rfl rfl (Nat.le_of_ble_eq_true rfl) (xm_rc q0 (by decide)) rfl q6 ?_
  refine xm_E_s r_X11_readLine_12 rfl rfl ?_
  refine xm_E_f q7 ?_
  refine xm_E_s r_X11_readLine_13 rfl rfl ?_
  refine xm_E_s r_X11_readLine_14 rfl (xm_T_gi rfl q0 rfl (Or.inl rfl)) ?_
  refine xm_E_s r_X11_readLine_15 rfl rfl ?_
  refine xm_E_s r_X11_readLine_16 rfl rfl ?_
  refine xm_E_f q8 ?_
  refine xm_E_s r_X11_readLine_17 rfl rfl ?_
  refine xm_E_s r_X11_readLine_18 rfl rfl ?_
  refine xm_E_cv [.ref l0, .int (1 : Int32)] [] r_X11_readLine_19 rfl rfl (Nat.le_of_ble_eq_true rfl) (xm_rc q0 (by decide)) rfl q9 ?_
  refine xm_E_s r_X11_readLine_20 rfl rfl ?_
  refine xm_E_cv [.ref l0] [] r_X11_readLine_21 rfl rfl (Nat.le_of_ble_eq_true rfl) (xm_rc q0 (by decide)) rfl q10 ?_
  refine xm_E_s r_X11_readLine_22 rfl rfl ?_
  refine xm_E_t q11 ?_
  refine xm_E_s r_X11_readLine_25 rfl rfl ?_
  refine xm_E_s r_X11_readLine_26 rfl (xm_T_gr rfl q0 rfl rfl q12) ?_
  refine xm_E_s r_X11_readLine_27 rfl rfl ?_
  refine xm_E_s r_X11_readLine_28 rfl rfl ?_
  refine xm_E_s r_X11_readLine_29 rfl (xm_T_iald rfl q13 (by decide) (fun e => e.elim (fun e => absurd e (by decide)) (fun e => Nat.not_le.mpr q14 e))) ?_
  refine xm_E_s r_X11_readLine_30 rfl rfl ?_
  refine xm_E_s r_X11_readLine_31 rfl rfl ?_
  refine xm_E_s r_X11_readLine_32 rfl (xm_T_asi rfl q13 (fun e => e.elim (fun e => absurd e (by decide)) (fun e => Nat.not_le.mpr q14 e))) ?_
  exact xm_E_ret r_X11_readLine_33 rfl
theorem p_X11_readLine_0_11 {X : xm_X} {P : List xm_M} {d : Nat} {h : xm_H} {l0 : Nat} {v0 : Nat} {n1 : Nat} {h2 : xm_H} {h3 : xm_H} {r3 : Int32} {h4 : xm_H} {h5 : xm_H} {r5 : Int32} {h6 : xm_H} {v7 : Nat} {n8 : Nat} (q0 : X.1[l0]? = some (.inr 10)) (q1 : h.2.2 l0 14 = some v0) (q2 : X.1[v0]? = some (.inl (0, n1))) (q3 : 22 < n1) (q4 : ¬ (h.1 v0 22 = (0 : Int32))) (q5 : xm_V X P d 208 [.ref l0] h none h2) (q6 : xm_V X P d 199 [.ref l0] h2 (some (.int r3)) h3) (q7 : ¬ (r3 = (0 : Int32))) (q8 : ¬ (h3.1 l0 10 = (3 : Int32))) (q9 : xm_V X P d 205 [.ref l0, .int (1 : Int32)] h3 none h4) (q10 : xm_V X P d 199 [.ref l0] h4 (some (.int r5)) h5) (q11 : ¬ (r5 = (0 : Int32))) (q12 : xm_V X P d 197 [.ref l0] h5 none h6) (q13 : h6.2.2 l0 14 = some v7) (q14 : X.1[v7]? = some (.inl (0, n8))) (q15 : 22 < n8) : xm_E X P d co_X11_readLine 0 [some (.ref l0)] [] h none (xm_si h6 v7 22 ((h6.1 v7 22) + (1 : Int32))) := by
  refine xm_E_s r_X11_readLine_0 rfl rfl ?_
  refine xm_E_s r_X11_readLine_1 rfl (xm_T_gr rfl q0 rfl rfl q1) ?_
  refine xm_E_s r_X11_readLine_2 rfl rfl ?_
  refine xm_E_s r_X11_readLine_3 rfl (xm_T_iald rfl q2 (by decide) (fun e => e.elim (fun e => absurd e (by decide)) (fun e => Nat.not_le.mpr q3 e))) ?_
  refine xm_E_s r_X11_readLine_4 rfl rfl ?_
  refine xm_E_f q4 ?_
  refine xm_E_s r_X11_readLine_8 rfl rfl ?_
  refine xm_E_cv [.ref l0] [] r_X11_readLine_9 rfl rfl (Nat.le_of_ble_eq_true rfl) (xm_rc q0 (by decide)) rfl q5 ?_
  refine xm_E_s r_X11_readLine_10 rfl rfl ?_
  refine xm_E_cv [.ref l0] [] r_X11_readLine_11 rfl rfl (Nat.le_of_ble_eq_true rfl) (xm_rc q0 (by decide)) rfl q6 ?_
  refine xm_E_s r_X11_readLine_12 rfl rfl ?_
  refine xm_E_f q7 ?_
  refine xm_E_s r_X11_readLine_13 rfl rfl ?_
  refine xm_E_s r_X11_readLine_14 rfl (xm_T_gi rfl q0 rfl (Or.inl rfl)) ?_
  refine xm_E_s r_X11_readLine_15 rfl rfl ?_
  refine xm_E_s r_X11_readLine_16 rfl rfl ?_
  refine xm_E_f q8 ?_
  refine xm_E_s r_X11_readLine_17 rfl rfl ?_
  refine xm_E_s r_X11_readLine_18 rfl rfl ?_
  refine xm_E_cv [.ref l0, .int (1 : Int32)] [] r_X11_readLine_19 rfl rfl (Nat.le_of_ble_eq_true rfl) (xm_rc q0 (by decide)) rfl q9 ?_
  refine xm_E_s r_X11_readLine_20 rfl rfl ?_
  refine xm_E_cv [.ref l0] [] r_X11_readLine_21 rfl rfl (Nat.le_of_ble_eq_true rfl) (xm_rc q0 (by decide)) rfl q10 ?_
  refine xm_E_s r_X11_readLine_22 rfl rfl ?_
  refine xm_E_f q11 ?_
  refine xm_E_s r_X11_readLine_23 rfl rfl ?_
  refine xm_E_cv [.ref l0] [] r_X11_readLine_24 rfl rfl (Nat.le_of_ble_eq_true rfl) (xm_rc q0 (by decide)) rfl q12 ?_
  refine xm_E_s r_X11_readLine_25 rfl rfl ?_
  refine xm_E_s r_X11_readLine_26 rfl (xm_T_gr rfl q0 rfl rfl q13) ?_
  refine xm_E_s r_X11_readLine_27 rfl rfl ?_
  refine xm_E_s r_X11_readLine_28 rfl rfl ?_
  refine xm_E_s r_X11_readLine_29 rfl (xm_T_iald rfl q14 (by decide) (fun e => e.elim (fun e => absurd e (by decide)) (fun e => Nat.not_le.mpr q15 e))) ?_
  refine xm_E_s r_X11_readLine_30 rfl rfl ?_
  refine xm_E_s r_X11_readLine_31 rfl rfl ?_
  refine xm_E_s r_X11_readLine_32 rfl (xm_T_asi rfl q14 (fun e => e.elim (fun e => absurd e (by decide)) (fun e => Nat.not_le.mpr q15 e))) ?_
  exact xm_E_ret r_X11_readLine_33 rfl
theorem r_X11_readFirst_0 : co_X11_readFirst[0]? = some ((0, .aload_n 0, 0, 0, 0, 0, 0, 0, []) : xm_I) := rfl
theorem r_X11_readFirst_1 : co_X11_readFirst[1]? = some ((1, .ldc 163, 15, 0, 1030, 1, 0, 0, []) : xm_I) := rfl
theorem r_X11_readFirst_2 : co_X11_readFirst[2]? = some ((3, .invokevirtual 156, 1553, 202, 2, 10, 0, 0, []) : xm_I) := rfl
theorem r_X11_readFirst_3 : co_X11_readFirst[3]? = some ((6, .aload_n 0, 0, 0, 0, 0, 0, 0, []) : xm_I) := rfl
theorem r_X11_readFirst_4 : co_X11_readFirst[4]? = some ((7, .getfield 31, 1394, 10, 14, 2, 0, 0, []) : xm_I) := rfl
theorem r_X11_readFirst_5 : co_X11_readFirst[5]? = some ((10, .iconst 0, 0, 0, 0, 0, 0, 0, []) : xm_I) := rfl
theorem r_X11_readFirst_6 : co_X11_readFirst[6]? = some ((11, .aload_n 0, 0, 0, 0, 0, 0, 0, []) : xm_I) := rfl
theorem r_X11_readFirst_7 : co_X11_readFirst[7]? = some ((12, .ldc 165, 16, 0, 1032, 1, 0, 0, []) : xm_I) := rfl
theorem r_X11_readFirst_8 : co_X11_readFirst[8]? = some ((14, .iconst 1, 0, 0, 0, 0, 1, 0, []) : xm_I) := rfl
theorem r_X11_readFirst_9 : co_X11_readFirst[9]? = some ((15, .bipush 48, 0, 0, 0, 0, 48, 0, []) : xm_I) := rfl
theorem r_X11_readFirst_10 : co_X11_readFirst[10]? = some ((17, .invokevirtual 167, 1572, 206, 4, 10, 0, 0, []) : xm_I) := rfl
theorem r_X11_readFirst_11 : co_X11_readFirst[11]? = some ((20, .iastore, 0, 0, 0, 0, 0, 0, []) : xm_I) := rfl
theorem r_X11_readFirst_12 : co_X11_readFirst[12]? = some ((21, .aload_n 0, 0, 0, 0, 0, 0, 0, []) : xm_I) := rfl
theorem r_X11_readFirst_13 : co_X11_readFirst[13]? = some ((22, .getfield 31, 1394, 10, 14, 2, 0, 0, []) : xm_I) := rfl
theorem r_X11_readFirst_14 : co_X11_readFirst[14]? = some ((25, .iconst 1, 0, 0, 0, 0, 1, 0, []) : xm_I) := rfl
theorem r_X11_readFirst_15 : co_X11_readFirst[15]? = some ((26, .aload_n 0, 0, 0, 0, 0, 0, 0, []) : xm_I) := rfl
theorem r_X11_readFirst_16 : co_X11_readFirst[16]? = some ((27, .ldc 171, 17, 0, 1034, 1, 0, 0, []) : xm_I) := rfl
theorem r_X11_readFirst_17 : co_X11_readFirst[17]? = some ((29, .iconst 1, 0, 0, 0, 0, 1, 0, []) : xm_I) := rfl
theorem r_X11_readFirst_18 : co_X11_readFirst[18]? = some ((30, .bipush 48, 0, 0, 0, 0, 48, 0, []) : xm_I) := rfl
theorem r_X11_readFirst_19 : co_X11_readFirst[19]? = some ((32, .invokevirtual 167, 1572, 206, 4, 10, 0, 0, []) : xm_I) := rfl
theorem r_X11_readFirst_20 : co_X11_readFirst[20]? = some ((35, .iastore, 0, 0, 0, 0, 0, 0, []) : xm_I) := rfl
theorem r_X11_readFirst_21 : co_X11_readFirst[21]? = some ((36, .aload_n 0, 0, 0, 0, 0, 0, 0, []) : xm_I) := rfl
theorem r_X11_readFirst_22 : co_X11_readFirst[22]? = some ((37, .getfield 31, 1394, 10, 14, 2, 0, 0, []) : xm_I) := rfl
theorem r_X11_readFirst_23 : co_X11_readFirst[23]? = some ((40, .iconst 2, 0, 0, 0, 0, 2, 0, []) : xm_I) := rfl
theorem r_X11_readFirst_24 : co_X11_readFirst[24]? = some ((41, .aload_n 0, 0, 0, 0, 0, 0, 0, []) : xm_I) := rfl
theorem r_X11_readFirst_25 : co_X11_readFirst[25]? = some ((42, .ldc 173, 18, 0, 1036, 1, 0, 0, []) : xm_I) := rfl
theorem r_X11_readFirst_26 : co_X11_readFirst[26]? = some ((44, .iconst 1, 0, 0, 0, 0, 1, 0, []) : xm_I) := rfl
theorem r_X11_readFirst_27 : co_X11_readFirst[27]? = some ((45, .bipush 9, 0, 0, 0, 0, 9, 0, []) : xm_I) := rfl
theorem r_X11_readFirst_28 : co_X11_readFirst[28]? = some ((47, .invokevirtual 167, 1572, 206, 4, 10, 0, 0, []) : xm_I) := rfl
theorem r_X11_readFirst_29 : co_X11_readFirst[29]? = some ((50, .iastore, 0, 0, 0, 0, 0, 0, []) : xm_I) := rfl
theorem r_X11_readFirst_30 : co_X11_readFirst[30]? = some ((51, .aload_n 0, 0, 0, 0, 0, 0, 0, []) : xm_I) := rfl
theorem r_X11_readFirst_31 : co_X11_readFirst[31]? = some ((52, .getfield 31, 1394, 10, 14, 2, 0, 0, []) : xm_I) := rfl
theorem r_X11_readFirst_32 : co_X11_readFirst[32]? = some ((55, .iconst 3, 0, 0, 0, 0, 3, 0, []) : xm_I) := rfl
theorem r_X11_readFirst_33 : co_X11_readFirst[33]? = some ((56, .aload_n 0, 0, 0, 0, 0, 0, 0, []) : xm_I) := rfl
theorem r_X11_readFirst_34 : co_X11_readFirst[34]? = some ((57, .ldc 175, 19, 0, 1038, 1, 0, 0, []) : xm_I) := rfl
theorem r_X11_readFirst_35 : co_X11_readFirst[35]? = some ((59, .iconst 1, 0, 0, 0, 0, 1, 0, []) : xm_I) := rfl
theorem r_X11_readFirst_36 : co_X11_readFirst[36]? = some ((60, .bipush 60, 0, 0, 0, 0, 60, 0, []) : xm_I) := rfl
theorem r_X11_readFirst_37 : co_X11_readFirst[37]? = some ((62, .invokevirtual 167, 1572, 206, 4, 10, 0, 0, []) : xm_I) := rfl
theorem r_X11_readFirst_38 : co_X11_readFirst[38]? = some ((65, .iastore, 0, 0, 0, 0, 0, 0, []) : xm_I) := rfl
theorem r_X11_readFirst_39 : co_X11_readFirst[39]? = some ((66, .aload_n 0, 0, 0, 0, 0, 0, 0, []) : xm_I) := rfl
theorem r_X11_readFirst_40 : co_X11_readFirst[40]? = some ((67, .getfield 31, 1394, 10, 14, 2, 0, 0, []) : xm_I) := rfl
theorem r_X11_readFirst_41 : co_X11_readFirst[41]? = some ((70, .iconst 4, 0, 0, 0, 0, 4, 0, []) : xm_I) := rfl
theorem r_X11_readFirst_42 : co_X11_readFirst[42]? = some ((71, .aload_n 0, 0, 0, 0, 0, 0, 0, []) : xm_I) := rfl
theorem r_X11_readFirst_43 : co_X11_readFirst[43]? = some ((72, .ldc 177, 20, 0, 1040, 1, 0, 0, []) : xm_I) := rfl
theorem r_X11_readFirst_44 : co_X11_readFirst[44]? = some ((74, .iconst 1, 0, 0, 0, 0, 1, 0, []) : xm_I) := rfl
theorem r_X11_readFirst_45 : co_X11_readFirst[45]? = some ((75, .bipush 60, 0, 0, 0, 0, 60, 0, []) : xm_I) := rfl
theorem r_X11_readFirst_46 : co_X11_readFirst[46]? = some ((77, .invokevirtual 167, 1572, 206, 4, 10, 0, 0, []) : xm_I) := rfl
theorem r_X11_readFirst_47 : co_X11_readFirst[47]? = some ((80, .iastore, 0, 0, 0, 0, 0, 0, []) : xm_I) := rfl
theorem r_X11_readFirst_48 : co_X11_readFirst[48]? = some ((81, .iconst 0, 0, 0, 0, 0, 0, 0, []) : xm_I) := rfl
theorem r_X11_readFirst_49 : co_X11_readFirst[49]? = some ((82, .istore_n 1, 0, 0, 0, 0, 0, 0, []) : xm_I) := rfl
theorem r_X11_readFirst_50 : co_X11_readFirst[50]? = some ((83, .iload_n 1, 0, 0, 0, 0, 0, 0, []) : xm_I) := rfl
theorem r_X11_readFirst_51 : co_X11_readFirst[51]? = some ((84, .bipush 6, 0, 0, 0, 0, 6, 0, []) : xm_I) := rfl
theorem r_X11_readFirst_52 : co_X11_readFirst[52]? = some ((86, .if_icmp .ge 18, 0, 0, 62, 0, 0, 0, []) : xm_I) := rfl
theorem r_X11_readFirst_53 : co_X11_readFirst[53]? = some ((89, .aload_n 0, 0, 0, 0, 0, 0, 0, []) : xm_I) := rfl
theorem r_X11_readFirst_54 : co_X11_readFirst[54]? = some ((90, .getfield 31, 1394, 10, 14, 2, 0, 0, []) : xm_I) := rfl
theorem r_X11_readFirst_55 : co_X11_readFirst[55]? = some ((93, .iconst 5, 0, 0, 0, 0, 5, 0, []) : xm_I) := rfl
theorem r_X11_readFirst_56 : co_X11_readFirst[56]? = some ((94, .iload_n 1, 0, 0, 0, 0, 0, 0, []) : xm_I) := rfl
theorem r_X11_readFirst_57 : co_X11_readFirst[57]? = some ((95, .iadd, 0, 0, 0, 0, 0, 0, []) : xm_I) := rfl
theorem r_X11_readFirst_58 : co_X11_readFirst[58]? = some ((96, .iconst 5, 0, 0, 0, 0, 5, 0, []) : xm_I) := rfl
theorem r_X11_readFirst_59 : co_X11_readFirst[59]? = some ((97, .iastore, 0, 0, 0, 0, 0, 0, []) : xm_I) := rfl
theorem r_X11_readFirst_60 : co_X11_readFirst[60]? = some ((98, .iinc 1 1, 0, 0, 0, 0, 1, 0, []) : xm_I) := rfl
theorem r_X11_readFirst_61 : co_X11_readFirst[61]? = some ((101, .goto (-18), 0, 0, 50, 0, 0, 0, []) : xm_I) := rfl
theorem r_X11_readFirst_62 : co_X11_readFirst[62]? = some ((104, .return_, 0, 0, 0, 0, 0, 0, []) : xm_I) := rfl
theorem p_X11_readFirst_0_0 {X : xm_X} {P : List xm_M} {d : Nat} {h : xm_H} {l0 : Nat} {h0 : xm_H} {v1 : Nat} {h2 : xm_H} {r2 : Int32} {n3 : Nat} {v4 : Nat} {h5 : xm_H} {r5 : Int32} {n6 : Nat} {v7 : Nat} {h8 : xm_H} {r8 : Int32} {n9 : Nat} {v10 : Nat} {h11 : xm_H} {r11 : Int32} {n12 : Nat} {v13 : Nat} {h14 : xm_H} {r14 : Int32} {n15 : Nat} {ro : Option Value} {ho : xm_H} (q0 : xm_V X P d 202 [.ref l0, .ref 1030] h none h0) (q1 : X.1[l0]? = some (.inr 10)) (q2 : h0.2.2 l0 14 = some v1) (q3 : xm_V X P d 206 [.ref l0, .ref 1032, .int (1 : Int32), .int (48 : Int32)] h0 (some (.int r2)) h2) (q4 : X.1[v1]? = some (.inl (0, n3))) (q5 : 0 < n3) (q6 : (xm_si h2 v1 0 r2).2.2 l0 14 = some v4) (q7 : xm_V X P d 206 [.ref l0, .ref 1034, .int (1 : Int32), .int (48 : Int32)] (xm_si h2 v1 0 r2) (some (.int r5)) h5) (q8 : X.1[v4]? = some (.inl (0, n6))) (q9 : 1 < n6) (q10 : (xm_si h5 v4 1 r5).2.2 l0 14 = some v7) (q11 : xm_V X P d 206 [.ref l0, .ref 1036, .int (1 : Int32), .int (9 : Int32)] (xm_si h5 v4 1 r5) (some (.int r8)) h8) (q12 : X.1[v7]? = some (.inl (0, n9))) (q13 : 2 < n9) (q14 : (xm_si h8 v7 2 r8).2.2 l0 14 = some v10) (q15 : xm_V X P d 206 [.ref l0, .ref 1038, .int (1 : Int32), .int (60 : Int32)] (xm_si h8 v7 2 r8) (some (.int r11)) h11) (q16 : X.1[v10]? = some (.inl (0, n12))) (q17 : 3 < n12) (q18 : (xm_si h11 v10 3 r11).2.2 l0 14 = some v13) (q19 : xm_V X P d 206 [.ref l0, .ref 1040, .int (1 : Int32), .int (60 : Int32)] (xm_si h11 v10 3 r11) (some (.int r14)) h14) (q20 : X.1[v13]? = some (.inl (0, n15))) (q21 : 4 < n15) (K : xm_E X P d co_X11_readFirst 50 [some (.ref l0), some (.int (0 : Int32))] [] (xm_si h14 v13 4 r14) ro ho) : xm_E X P d co_X11_readFirst 0 [some (.ref l0), none] [] h ro ho := by
  refine xm_E_s r_X11_readFirst_0 rfl rfl ?_
  refine xm_E_s r_X11_readFirst_1 rfl rfl ?_
  refine xm_E_cv [.ref l0, .ref 1030] [] r_X11_readFirst_2 rfl rfl (Nat.le_of_ble_eq_true rfl) (xm_rc q1 (by decide)) rfl q0 ?_
  refine xm_E_s r_X11_readFirst_3 rfl rfl ?_
  refine xm_E_s r_X11_readFirst_4 rfl (xm_T_gr rfl q1 rfl rfl q2) ?_
  refine xm_E_s r_X11_readFirst_5 rfl rfl ?_
  refine xm_E_s r_X11_readFirst_6 rfl rfl ?_
  refine xm_E_s r_X11_readFirst_7 rfl rfl ?_
  refine xm_E_s r_X11_readFirst_8 rfl rfl ?_
  refine xm_E_s r_X11_readFirst_9 rfl rfl ?_
  refine xm_E_cv [.ref l0, .ref 1032, .int (1 : Int32), .int (48 : Int32)] [.int (0 : Int32), .ref v1] r_X11_readFirst_10 rfl rfl (Nat.le_of_ble_eq_true rfl) (xm_rc q1 (by decide)) rfl q3 ?_
  refine xm_E_s r_X11_readFirst_11 rfl (xm_T_asi rfl q4 (fun e => e.elim (fun e => absurd e (by decide)) (fun e => Nat.not_le.mpr q5 e))) ?_
  refine xm_E_s r_X11_readFirst_12 rfl rfl ?_
  refine xm_E_s r_X11_readFirst_13 rfl (xm_T_gr rfl q1 rfl rfl q6) ?_
  refine xm_E_s r_X11_readFirst_14 rfl rfl ?_
  refine xm_E_s r_X11_readFirst_15 rfl rfl ?_
  refine xm_E_s r_X11_readFirst_16 rfl rfl ?_
  refine xm_E_s r_X11_readFirst_17 rfl rfl ?_
  refine xm_E_s r_X11_readFirst_18 rfl rfl ?_
  refine xm_E_cv [.ref l0, .ref 1034, .int (1 : Int32), .int (48 : Int32)] [.int (1 : Int32), .ref v4] r_X11_readFirst_19 rfl rfl (Nat.le_of_ble_eq_true rfl) (xm_rc q1 (by decide)) rfl q7 ?_
  refine xm_E_s r_X11_readFirst_20 rfl (xm_T_asi rfl q8 (fun e => e.elim (fun e => absurd e (by decide)) (fun e => Nat.not_le.mpr q9 e))) ?_
  refine xm_E_s r_X11_readFirst_21 rfl rfl ?_
  refine xm_E_s r_X11_readFirst_22 rfl (xm_T_gr rfl q1 rfl rfl q10) ?_
  refine xm_E_s r_X11_readFirst_23 rfl rfl ?_
  refine xm_E_s r_X11_readFirst_24 rfl rfl ?_
  refine xm_E_s r_X11_readFirst_25 rfl rfl ?_
  refine xm_E_s r_X11_readFirst_26 rfl rfl ?_
  refine xm_E_s r_X11_readFirst_27 rfl rfl ?_
  refine xm_E_cv [.ref l0, .ref 1036, .int (1 : Int32), .int (9 : Int32)] [.int (2 : Int32), .ref v7] r_X11_readFirst_28 rfl rfl (Nat.le_of_ble_eq_true rfl) (xm_rc q1 (by decide)) rfl q11 ?_
  refine xm_E_s r_X11_readFirst_29 rfl (xm_T_asi rfl q12 (fun e => e.elim (fun e => absurd e (by decide)) (fun e => Nat.not_le.mpr q13 e))) ?_
  refine xm_E_s r_X11_readFirst_30 rfl rfl ?_
  refine xm_E_s r_X11_readFirst_31 rfl (xm_T_gr rfl q1 rfl rfl q14) ?_
  refine xm_E_s r_X11_readFirst_32 rfl rfl ?_
  refine xm_E_s r_X11_readFirst_33 rfl rfl ?_
  refine xm_E_s r_X11_readFirst_34 rfl rfl ?_
  refine xm_E_s r_X11_readFirst_35 rfl rfl ?_
  refine xm_E_s r_X11_readFirst_36 rfl rfl ?_
  refine xm_E_cv [.ref l0, .ref 1038, .int (1 : Int32), .int (60 : Int32)] [.int (3 : Int32), .ref v10] r_X11_readFirst_37 rfl rfl (Nat.le_of_ble_eq_true rfl) (xm_rc q1 (by decide)) rfl q15 ?_
  refine xm_E_s r_X11_readFirst_38 rfl (xm_T_asi rfl q16 (fun e => e.elim (fun e => absurd e (by decide)) (fun e => Nat.not_le.mpr q17 e))) ?_
  refine xm_E_s r_X11_readFirst_39 rfl rfl ?_
  refine xm_E_s r_X11_readFirst_40 rfl (xm_T_gr rfl q1 rfl rfl q18) ?_
  refine xm_E_s r_X11_readFirst_41 rfl rfl ?_
  refine xm_E_s r_X11_readFirst_42 rfl rfl ?_
  refine xm_E_s r_X11_readFirst_43 rfl rfl ?_
  refine xm_E_s r_X11_readFirst_44 rfl rfl ?_
  refine xm_E_s r_X11_readFirst_45 rfl rfl ?_
  refine xm_E_cv [.ref l0, .ref 1040, .int (1 : Int32), .int (60 : Int32)] [.int (4 : Int32), .ref v13] r_X11_readFirst_46 rfl rfl (Nat.le_of_ble_eq_true rfl) (xm_rc q1 (by decide)) rfl q19 ?_
  refine xm_E_s r_X11_readFirst_47 rfl (xm_T_asi rfl q20 (fun e => e.elim (fun e => absurd e (by decide)) (fun e => Nat.not_le.mpr q21 e))) ?_
  refine xm_E_s r_X11_readFirst_48 rfl rfl ?_
  refine xm_E_s (ls1 := [some (.ref l0), some (.int (0 : Int32))]) r_X11_readFirst_49 rfl rfl ?_
  exact K
theorem p_X11_readFirst_50_0 {X : xm_X} {P : List xm_M} {d : Nat} {h : xm_H} {l0 : Nat} {l1 : Int32} (q0 : (6 : Int32) ≤ l1) : xm_E X P d co_X11_readFirst 50 [some (.ref l0), some (.int l1)] [] h none h := by
  refine xm_E_s r_X11_readFirst_50 rfl rfl ?_
  refine xm_E_s r_X11_readFirst_51 rfl rfl ?_
  refine xm_E_s r_X11_readFirst_52 rfl rfl ?_
  refine xm_E_t q0 ?_
  exact xm_E_ret r_X11_readFirst_62 rfl
theorem p_X11_readFirst_50_1 {X : xm_X} {P : List xm_M} {d : Nat} {h : xm_H} {l0 : Nat} {l1 : Int32} {v0 : Nat} {n1 : Nat} {ro : Option Value} {ho : xm_H} (q0 : ¬ ((6 : Int32) ≤ l1)) (q1 : X.1[l0]? = some (.inr 10)) (q2 : h.2.2 l0 14 = some v0) (q3 : X.1[v0]? = some (.inl (0, n1))) (q4 : ¬ ((5 : Int32) + l1 < 0 ∨ n1 ≤ ((5 : Int32) + l1).toNatClampNeg)) (K : xm_E X P d co_X11_readFirst 50 [some (.ref l0), some (.int (l1 + (1 : Int32)))] [] (xm_si h v0 (((5 : Int32) + l1).toNatClampNeg) (5 : Int32)) ro ho) : xm_E X P d co_X11_readFirst 50 [some (.ref l0), some (.int l1)] [] h ro ho := by
  refine xm_E_s r_X11_readFirst_50 rfl rfl ?_
  refine xm_E_s r_X11_readFirst_51 rfl rfl ?_
  refine xm_E_s r_X11_readFirst_52 rfl rfl ?_
  refine xm_E_f q0 ?_
  refine xm_E_s r_X11_readFirst_53 rfl rfl ?_
  refine xm_E_s r_X11_readFirst_54 rfl (xm_T_gr rfl q1 rfl rfl q2) ?_
  refine xm_E_s r_X11_readFirst_55 rfl rfl ?_
  refine xm_E_s r_X11_readFirst_56 rfl rfl ?_
  refine xm_E_s r_X11_readFirst_57 rfl rfl ?_
  refine xm_E_s r_X11_readFirst_58 rfl rfl ?_
  refine xm_E_s r_X11_readFirst_59 rfl (xm_T_asi rfl q3 q4) ?_
  refine xm_E_s (ls1 := [some (.ref l0), some (.int (l1 + (1 : Int32)))]) r_X11_readFirst_60 rfl rfl ?_
  refine xm_E_s r_X11_readFirst_61 rfl rfl ?_
  exact K
theorem r_X11_needs_0 : co_X11_needs[0]? = some ((0, .aload_n 0, 0, 0, 0, 0, 0, 0, []) : xm_I) := rfl
theorem r_X11_needs_1 : co_X11_needs[1]? = some ((1, .aload_n 1, 0, 0, 0, 0, 0, 0, []) : xm_I) := rfl
theorem r_X11_needs_2 : co_X11_needs[2]? = some ((2, .invokevirtual 149, 1557, 203, 2, 10, 0, 0, []) : xm_I) := rfl
theorem r_X11_needs_3 : co_X11_needs[3]? = some ((5, .ifCond .ne 8, 0, 0, 7, 0, 0, 0, []) : xm_I) := rfl
theorem r_X11_needs_4 : co_X11_needs[4]? = some ((8, .aload_n 0, 0, 0, 0, 0, 0, 0, []) : xm_I) := rfl
theorem r_X11_needs_5 : co_X11_needs[5]? = some ((9, .iconst 1, 0, 0, 0, 0, 1, 0, []) : xm_I) := rfl
theorem r_X11_needs_6 : co_X11_needs[6]? = some ((10, .invokevirtual 152, 1567, 205, 2, 10, 0, 0, []) : xm_I) := rfl
theorem r_X11_needs_7 : co_X11_needs[7]? = some ((13, .return_, 0, 0, 0, 0, 0, 0, []) : xm_I) := rfl
theorem p_X11_needs_0_0 {X : xm_X} {P : List xm_M} {d : Nat} {h : xm_H} {l0 : Nat} {l1 : Nat} {h0 : xm_H} {r0 : Int32} {h1 : xm_H} (q0 : xm_V X P d 203 [.ref l0, .ref l1] h (some (.int r0)) h0) (q1 : X.1[l0]? = some (.inr 10)) (q2 : r0 = (0 : Int32)) (q3 : xm_V X P d 205 [.ref l0, .int (1 : Int32)] h0 none h1) : xm_E X P d co_X11_needs 0 [some (.ref l0), some (.ref l1)] [] h none h1 := by
  refine xm_E_s r_X11_needs_0 rfl rfl ?_
  refine xm_E_s r_X11_needs_1 rfl rfl ?_
  refine xm_E_cv [.ref l0, .ref l1] [] r_X11_needs_2 rfl rfl (Nat.le_of_ble_eq_true rfl) (xm_rc q1 (by decide)) rfl q0 ?_
  refine xm_E_s r_X11_needs_3 rfl rfl ?_
  refine xm_E_t q2 ?_
  refine xm_E_s r_X11_needs_4 rfl rfl ?_
  refine xm_E_s r_X11_needs_5 rfl rfl ?_
  refine xm_E_cv [.ref l0, .int (1 : Int32)] [] r_X11_needs_6 rfl rfl (Nat.le_of_ble_eq_true rfl) (xm_rc q1 (by decide)) rfl q3 ?_
  exact xm_E_ret r_X11_needs_7 rfl
theorem p_X11_needs_0_1 {X : xm_X} {P : List xm_M} {d : Nat} {h : xm_H} {l0 : Nat} {l1 : Nat} {h0 : xm_H} {r0 : Int32} (q0 : xm_V X P d 203 [.ref l0, .ref l1] h (some (.int r0)) h0) (q1 : X.1[l0]? = some (.inr 10)) (q2 : ¬ (r0 = (0 : Int32))) : xm_E X P d co_X11_needs 0 [some (.ref l0), some (.ref l1)] [] h none h0 := by
  refine xm_E_s r_X11_needs_0 rfl rfl ?_
  refine xm_E_s r_X11_needs_1 rfl rfl ?_
  refine xm_E_cv [.ref l0, .ref l1] [] r_X11_needs_2 rfl rfl (Nat.le_of_ble_eq_true rfl) (xm_rc q1 (by decide)) rfl q0 ?_
  refine xm_E_s r_X11_needs_3 rfl rfl ?_
  refine xm_E_f q2 ?_
  exact xm_E_ret r_X11_needs_7 rfl
theorem r_X11_takes_0 : co_X11_takes[0]? = some ((0, .aload_n 0, 0, 0, 0, 0, 0, 0, []) : xm_I) := rfl
theorem r_X11_takes_1 : co_X11_takes[1]? = some ((1, .aload_n 1, 0, 0, 0, 0, 0, 0, []) : xm_I) := rfl
theorem r_X11_takes_2 : co_X11_takes[2]? = some ((2, .invokevirtual 142, 1561, 204, 2, 10, 0, 0, []) : xm_I) := rfl
theorem r_X11_takes_3 : co_X11_takes[3]? = some ((5, .istore_n 2, 0, 0, 0, 0, 0, 0, []) : xm_I) := rfl
theorem r_X11_takes_4 : co_X11_takes[4]? = some ((6, .iload_n 2, 0, 0, 0, 0, 0, 0, []) : xm_I) := rfl
theorem r_X11_takes_5 : co_X11_takes[5]? = some ((7, .ifCond .eq 7, 0, 0, 8, 0, 0, 0, []) : xm_I) := rfl
theorem r_X11_takes_6 : co_X11_takes[6]? = some ((10, .aload_n 0, 0, 0, 0, 0, 0, 0, []) : xm_I) := rfl
theorem r_X11_takes_7 : co_X11_takes[7]? = some ((11, .invokevirtual 146, 1526, 197, 1, 10, 0, 0, []) : xm_I) := rfl
theorem r_X11_takes_8 : co_X11_takes[8]? = some ((14, .iload_n 2, 0, 0, 0, 0, 0, 0, []) : xm_I) := rfl
theorem r_X11_takes_9 : co_X11_takes[9]? = some ((15, .ireturn, 0, 0, 0, 3, 0, 0, []) : xm_I) := rfl
theorem p_X11_takes_0_0 {X : xm_X} {P : List xm_M} {d : Nat} {h : xm_H} {l0 : Nat} {l1 : Nat} {h0 : xm_H} {r0 : Int32} (q0 : xm_V X P d 204 [.ref l0, .ref l1] h (some (.int r0)) h0) (q1 : X.1[l0]? = some (.inr 10)) (q2 : r0 = (0 : Int32)) (q3 : xm_okr 3 r0 = true) : xm_E X P d co_X11_takes 0 [some (.ref l0), some (.ref l1), none] [] h (some (.int r0)) h0 := by
  refine xm_E_s r_X11_takes_0 rfl rfl ?_
  refine xm_E_s r_X11_takes_1 rfl rfl ?_
  refine xm_E_cv [.ref l0, .ref l1] [] r_X11_takes_2 rfl rfl (Nat.le_of_ble_eq_true rfl) (xm_rc q1 (by decide)) rfl q0 ?_
  refine xm_E_s (ls1 := [some (.ref l0), some (.ref l1), some (.int r0)]) r_X11_takes_3 rfl rfl ?_
  refine xm_E_s r_X11_takes_4 rfl rfl ?_
  refine xm_E_s r_X11_takes_5 rfl rfl ?_
  refine xm_E_t q2 ?_
  refine xm_E_s r_X11_takes_8 rfl rfl ?_
  exact xm_E_iret r_X11_takes_9 rfl q3
theorem p_X11_takes_0_1 {X : xm_X} {P : List xm_M} {d : Nat} {h : xm_H} {l0 : Nat} {l1 : Nat} {h0 : xm_H} {r0 : Int32} {h1 : xm_H} (q0 : xm_V X P d 204 [.ref l0, .ref l1] h (some (.int r0)) h0) (q1 : X.1[l0]? = some (.inr 10)) (q2 : ¬ (r0 = (0 : Int32))) (q3 : xm_V X P d 197 [.ref l0] h0 none h1) (q4 : xm_okr 3 r0 = true) : xm_E X P d co_X11_takes 0 [some (.ref l0), some (.ref l1), none] [] h (some (.int r0)) h1 := by
  refine xm_E_s r_X11_takes_0 rfl rfl ?_
  refine xm_E_s r_X11_takes_1 rfl rfl ?_
  refine xm_E_cv [.ref l0, .ref l1] [] r_X11_takes_2 rfl rfl (Nat.le_of_ble_eq_true rfl) (xm_rc q1 (by decide)) rfl q0 ?_
  refine xm_E_s (ls1 := [some (.ref l0), some (.ref l1), some (.int r0)]) r_X11_takes_3 rfl rfl ?_
  refine xm_E_s r_X11_takes_4 rfl rfl ?_
  refine xm_E_s r_X11_takes_5 rfl rfl ?_
  refine xm_E_f q2 ?_
  refine xm_E_s r_X11_takes_6 rfl rfl ?_
  refine xm_E_cv [.ref l0] [] r_X11_takes_7 rfl rfl (Nat.le_of_ble_eq_true rfl) (xm_rc q1 (by decide)) rfl q3 ?_
  refine xm_E_s r_X11_takes_8 rfl rfl ?_
  exact xm_E_iret r_X11_takes_9 rfl q4
theorem r_X11_is_0 : co_X11_is[0]? = some ((0, .aload_n 0, 0, 0, 0, 0, 0, 0, []) : xm_I) := rfl
theorem r_X11_is_1 : co_X11_is[1]? = some ((1, .invokevirtual 128, 1540, 199, 1, 10, 0, 0, []) : xm_I) := rfl
theorem r_X11_is_2 : co_X11_is[2]? = some ((4, .ifCond .eq 31, 0, 0, 17, 0, 0, 0, []) : xm_I) := rfl
theorem r_X11_is_3 : co_X11_is[3]? = some ((7, .aload_n 0, 0, 0, 0, 0, 0, 0, []) : xm_I) := rfl
theorem r_X11_is_4 : co_X11_is[4]? = some ((8, .getfield 104, 1390, 10, 10, 0, 0, 0, []) : xm_I) := rfl
theorem r_X11_is_5 : co_X11_is[5]? = some ((11, .iconst 1, 0, 0, 0, 0, 1, 0, []) : xm_I) := rfl
theorem r_X11_is_6 : co_X11_is[6]? = some ((12, .if_icmp .ne 23, 0, 0, 17, 0, 0, 0, []) : xm_I) := rfl
theorem r_X11_is_7 : co_X11_is[7]? = some ((15, .aload_n 0, 0, 0, 0, 0, 0, 0, []) : xm_I) := rfl
theorem r_X11_is_8 : co_X11_is[8]? = some ((16, .getfield 94, 1388, 10, 8, 0, 0, 0, []) : xm_I) := rfl
theorem r_X11_is_9 : co_X11_is[9]? = some ((19, .aload_n 0, 0, 0, 0, 0, 0, 0, []) : xm_I) := rfl
theorem r_X11_is_10 : co_X11_is[10]? = some ((20, .getfield 101, 1389, 10, 9, 0, 0, 0, []) : xm_I) := rfl
theorem r_X11_is_11 : co_X11_is[11]? = some ((23, .isub, 0, 0, 0, 0, 0, 0, []) : xm_I) := rfl
theorem r_X11_is_12 : co_X11_is[12]? = some ((24, .aload_n 1, 0, 0, 0, 0, 0, 0, []) : xm_I) := rfl
theorem r_X11_is_13 : co_X11_is[13]? = some ((25, .invokevirtual 132, 1565, 15, 1, 99, 0, 0, []) : xm_I) := rfl
theorem r_X11_is_14 : co_X11_is[14]? = some ((28, .if_icmp .ne 7, 0, 0, 17, 0, 0, 0, []) : xm_I) := rfl
theorem r_X11_is_15 : co_X11_is[15]? = some ((31, .iconst 1, 0, 0, 0, 0, 1, 0, []) : xm_I) := rfl
theorem r_X11_is_16 : co_X11_is[16]? = some ((32, .goto 4, 0, 0, 18, 0, 0, 0, []) : xm_I) := rfl
theorem r_X11_is_17 : co_X11_is[17]? = some ((35, .iconst 0, 0, 0, 0, 0, 0, 0, []) : xm_I) := rfl
theorem r_X11_is_18 : co_X11_is[18]? = some ((36, .istore_n 2, 0, 0, 0, 0, 0, 0, []) : xm_I) := rfl
theorem r_X11_is_19 : co_X11_is[19]? = some ((37, .iconst 0, 0, 0, 0, 0, 0, 0, []) : xm_I) := rfl
theorem r_X11_is_20 : co_X11_is[20]? = some ((38, .istore_n 3, 0, 0, 0, 0, 0, 0, []) : xm_I) := rfl
theorem r_X11_is_21 : co_X11_is[21]? = some ((39, .iload_n 3, 0, 0, 0, 0, 0, 0, []) : xm_I) := rfl
theorem r_X11_is_22 : co_X11_is[22]? = some ((40, .aload_n 1, 0, 0, 0, 0, 0, 0, []) : xm_I) := rfl
theorem r_X11_is_23 : co_X11_is[23]? = some ((41, .invokevirtual 132, 1565, 15, 1, 99, 0, 0, []) : xm_I) := rfl
theorem r_X11_is_24 : co_X11_is[24]? = some ((44, .if_icmp .ge 38, 0, 0, 44, 0, 0, 0, []) : xm_I) := rfl
theorem r_X11_is_25 : co_X11_is[25]? = some ((47, .iload_n 2, 0, 0, 0, 0, 0, 0, []) : xm_I) := rfl
theorem r_X11_is_26 : co_X11_is[26]? = some ((48, .ifCond .eq 34, 0, 0, 44, 0, 0, 0, []) : xm_I) := rfl
theorem r_X11_is_27 : co_X11_is[27]? = some ((51, .aload_n 0, 0, 0, 0, 0, 0, 0, []) : xm_I) := rfl
theorem r_X11_is_28 : co_X11_is[28]? = some ((52, .getfield 20, 1384, 10, 4, 2, 0, 0, []) : xm_I) := rfl
theorem r_X11_is_29 : co_X11_is[29]? = some ((55, .aload_n 0, 0, 0, 0, 0, 0, 0, []) : xm_I) := rfl
theorem r_X11_is_30 : co_X11_is[30]? = some ((56, .getfield 101, 1389, 10, 9, 0, 0, 0, []) : xm_I) := rfl
theorem r_X11_is_31 : co_X11_is[31]? = some ((59, .iload_n 3, 0, 0, 0, 0, 0, 0, []) : xm_I) := rfl
theorem r_X11_is_32 : co_X11_is[32]? = some ((60, .iadd, 0, 0, 0, 0, 0, 0, []) : xm_I) := rfl
theorem r_X11_is_33 : co_X11_is[33]? = some ((61, .baload, 0, 0, 0, 0, 0, 0, []) : xm_I) := rfl
theorem r_X11_is_34 : co_X11_is[34]? = some ((62, .aload_n 1, 0, 0, 0, 0, 0, 0, []) : xm_I) := rfl
theorem r_X11_is_35 : co_X11_is[35]? = some ((63, .iload_n 3, 0, 0, 0, 0, 0, 0, []) : xm_I) := rfl
theorem r_X11_is_36 : co_X11_is[36]? = some ((64, .invokevirtual 138, 1566, 17, 2, 99, 0, 0, []) : xm_I) := rfl
theorem r_X11_is_37 : co_X11_is[37]? = some ((67, .if_icmp .ne 7, 0, 0, 40, 0, 0, 0, []) : xm_I) := rfl
theorem r_X11_is_38 : co_X11_is[38]? = some ((70, .iconst 1, 0, 0, 0, 0, 1, 0, []) : xm_I) := rfl
theorem r_X11_is_39 : co_X11_is[39]? = some ((71, .goto 4, 0, 0, 41, 0, 0, 0, []) : xm_I) := rfl
theorem r_X11_is_40 : co_X11_is[40]? = some ((74, .iconst 0, 0, 0, 0, 0, 0, 0, []) : xm_I) := rfl
theorem r_X11_is_41 : co_X11_is[41]? = some ((75, .istore_n 2, 0, 0, 0, 0, 0, 0, []) : xm_I) := rfl
theorem r_X11_is_42 : co_X11_is[42]? = some ((76, .iinc 3 1, 0, 0, 0, 0, 1, 0, []) : xm_I) := rfl
theorem r_X11_is_43 : co_X11_is[43]? = some ((79, .goto (-40), 0, 0, 21, 0, 0, 0, []) : xm_I) := rfl
theorem r_X11_is_44 : co_X11_is[44]? = some ((82, .iload_n 2, 0, 0, 0, 0, 0, 0, []) : xm_I) := rfl
theorem r_X11_is_45 : co_X11_is[45]? = some ((83, .ireturn, 0, 0, 0, 3, 0, 0, []) : xm_I) := rfl
theorem p_X11_is_0_0 {X : xm_X} {P : List xm_M} {d : Nat} {h : xm_H} {l0 : Nat} {l1 : Nat} {h0 : xm_H} {r0 : Int32} {ro : Option Value} {ho : xm_H} (q0 : xm_V X P d 199 [.ref l0] h (some (.int r0)) h0) (q1 : X.1[l0]? = some (.inr 10)) (q2 : r0 = (0 : Int32)) (K : xm_E X P d co_X11_is 21 [some (.ref l0), some (.ref l1), some (.int (0 : Int32)), some (.int (0 : Int32))] [] h0 ro ho) : xm_E X P d co_X11_is 0 [some (.ref l0), some (.ref l1), none, none] [] h ro ho := by
  refine xm_E_s r_X11_is_0 rfl rfl ?_
  refine xm_E_cv [.ref l0] [] r_X11_is_1 rfl rfl (Nat.le_of_ble_eq_true rfl) (xm_rc q1 (by decide)) rfl q0 ?_
  refine xm_E_s r_X11_is_2 rfl rfl ?_
  refine xm_E_t q2 ?_
  refine xm_E_s r_X11_is_17 rfl rfl ?_
  refine xm_E_s (ls1 := [some (.ref l0), some (.ref l1), some (.int (0 : Int32)), none]) r_X11_is_18 rfl rfl ?_
  refine xm_E_s r_X11_is_19 rfl rfl ?_
  refine xm_E_s (ls1 := [some (.ref l0), some (.ref l1), some (.int (0 : Int32)), some (.int (0 : Int32))]) r_X11_is_20 rfl rfl ?_
  exact K
theorem p_X11_is_0_1 {X : xm_X} {P : List xm_M} {d : Nat} {h : xm_H} {l0 : Nat} {l1 : Nat} {h0 : xm_H} {r0 : Int32} {h1 : xm_H} {r1 : Int32} {ro : Option Value} {ho : xm_H} (q0 : xm_V X P d 199 [.ref l0] h (some (.int r0)) h0) (q1 : X.1[l0]? = some (.inr 10)) (q2 : ¬ (r0 = (0 : Int32))) (q3 : h0.1 l0 10 = (1 : Int32)) (q4 : xm_V X P d 15 [.ref l1] h0 (some (.int r1)) h1) (q5 : X.2.2.1 l1 0 = some (.int 0)) (q6 : (h0.1 l0 8) - (h0.1 l0 9) = r1) (K : xm_E X P d co_X11_is 21 [some (.ref l0), some (.ref l1), some (.int (1 : Int32)), some (.int (0 : Int32))] [] h1 ro ho) : xm_E X P d co_X11_is 0 [some (.ref l0), some (.ref l1), none, none] [] h ro ho := by
  refine xm_E_s r_X11_is_0 rfl rfl ?_
  refine xm_E_cv [.ref l0] [] r_X11_is_1 rfl rfl (Nat.le_of_ble_eq_true rfl) (xm_rc q1 (by decide)) rfl q0 ?_
  refine xm_E_s r_X11_is_2 rfl rfl ?_
  refine xm_E_f q2 ?_
  refine xm_E_s r_X11_is_3 rfl rfl ?_
  refine xm_E_s r_X11_is_4 rfl (xm_T_gi rfl q1 rfl (Or.inl rfl)) ?_
  refine xm_E_s r_X11_is_5 rfl rfl ?_
  refine xm_E_s r_X11_is_6 rfl rfl ?_
  refine xm_E_t q3 ?_
  refine xm_E_s r_X11_is_7 rfl rfl ?_
  refine xm_E_s r_X11_is_8 rfl (xm_T_gi rfl q1 rfl (Or.inl rfl)) ?_
  refine xm_E_s r_X11_is_9 rfl rfl ?_
  refine xm_E_s r_X11_is_10 rfl (xm_T_gi rfl q1 rfl (Or.inl rfl)) ?_
  refine xm_E_s r_X11_is_11 rfl rfl ?_
  refine xm_E_s r_X11_is_12 rfl rfl ?_
  refine xm_E_cv [.ref l1] [.int ((h0.1 l0 8) - (h0.1 l0 9))] r_X11_is_13 rfl rfl (Nat.le_of_ble_eq_true rfl) (xm_rs q5) rfl q4 ?_
  refine xm_E_s r_X11_is_14 rfl rfl ?_
  refine xm_E_t q6 ?_
  refine xm_E_s r_X11_is_15 rfl rfl ?_
  refine xm_E_s r_X11_is_16 rfl rfl ?_
  refine xm_E_s (ls1 := [some (.ref l0), some (.ref l1), some (.int (1 : Int32)), none]) r_X11_is_18 rfl rfl ?_
  refine xm_E_s r_X11_is_19 rfl rfl ?_
  refine xm_E_s (ls1 := [some (.ref l0), some (.ref l1), some (.int (1 : Int32)), some (.int (0 : Int32))]) r_X11_is_20 rfl rfl ?_
  exact K
theorem p_X11_is_0_2 {X : xm_X} {P : List xm_M} {d : Nat} {h : xm_H} {l0 : Nat} {l1 : Nat} {h0 : xm_H} {r0 : Int32} {h1 : xm_H} {r1 : Int32} {ro : Option Value} {ho : xm_H} (q0 : xm_V X P d 199 [.ref l0] h (some (.int r0)) h0) (q1 : X.1[l0]? = some (.inr 10)) (q2 : ¬ (r0 = (0 : Int32))) (q3 : h0.1 l0 10 = (1 : Int32)) (q4 : xm_V X P d 15 [.ref l1] h0 (some (.int r1)) h1) (q5 : X.2.2.1 l1 0 = some (.int 0)) (q6 : ¬ ((h0.1 l0 8) - (h0.1 l0 9) = r1)) (K : xm_E X P d co_X11_is 21 [some (.ref l0), some (.ref l1), some (.int (0 : Int32)), some (.int (0 : Int32))] [] h1 ro ho) : xm_E X P d co_X11_is 0 [some (.ref l0), some (.ref l1), none, none] [] h ro ho := by
  refine xm_E_s r_X11_is_0 rfl rfl ?_
  refine xm_E_cv [.ref l0] [] r_X11_is_1 rfl rfl (Nat.le_of_ble_eq_true rfl) (xm_rc q1 (by decide)) rfl q0 ?_
  refine xm_E_s r_X11_is_2 rfl rfl ?_
  refine xm_E_f q2 ?_
  refine xm_E_s r_X11_is_3 rfl rfl ?_
  refine xm_E_s r_X11_is_4 rfl (xm_T_gi rfl q1 rfl (Or.inl rfl)) ?_
  refine xm_E_s r_X11_is_5 rfl rfl ?_
  refine xm_E_s r_X11_is_6 rfl rfl ?_
  refine xm_E_t q3 ?_
  refine xm_E_s r_X11_is_7 rfl rfl ?_
  refine xm_E_s r_X11_is_8 rfl (xm_T_gi rfl q1 rfl (Or.inl rfl)) ?_
  refine xm_E_s r_X11_is_9 rfl rfl ?_
  refine xm_E_s r_X11_is_10 rfl (xm_T_gi rfl q1 rfl (Or.inl rfl)) ?_
  refine xm_E_s r_X11_is_11 rfl rfl ?_
  refine xm_E_s r_X11_is_12 rfl rfl ?_
  refine xm_E_cv [.ref l1] [.int ((h0.1 l0 8) - (h0.1 l0 9))] r_X11_is_13 rfl rfl (Nat.le_of_ble_eq_true rfl) (xm_rs q5) rfl q4 ?_
  refine xm_E_s r_X11_is_14 rfl rfl ?_
  refine xm_E_f q6 ?_
  refine xm_E_s r_X11_is_17 rfl rfl ?_
  refine xm_E_s (ls1 := [some (.ref l0), some (.ref l1), some (.int (0 : Int32)), none]) r_X11_is_18 rfl rfl ?_
  refine xm_E_s r_X11_is_19 rfl rfl ?_
  refine xm_E_s (ls1 := [some (.ref l0), some (.ref l1), some (.int (0 : Int32)), some (.int (0 : Int32))]) r_X11_is_20 rfl rfl ?_
  exact K
theorem p_X11_is_0_3 {X : xm_X} {P : List xm_M} {d : Nat} {h : xm_H} {l0 : Nat} {l1 : Nat} {h0 : xm_H} {r0 : Int32} {ro : Option Value} {ho : xm_H} (q0 : xm_V X P d 199 [.ref l0] h (some (.int r0)) h0) (q1 : X.1[l0]? = some (.inr 10)) (q2 : ¬ (r0 = (0 : Int32))) (q3 : ¬ (h0.1 l0 10 = (1 : Int32))) (K : xm_E X P d co_X11_is 21 [some (.ref l0), some (.ref l1), some (.int (0 : Int32)), some (.int (0 : Int32))] [] h0 ro ho) : xm_E X P d co_X11_is 0 [some (.ref l0), some (.ref l1), none, none] [] h ro ho := by
  refine xm_E_s r_X11_is_0 rfl rfl ?_
  refine xm_E_cv [.ref l0] [] r_X11_is_1 rfl rfl (Nat.le_of_ble_eq_true rfl) (xm_rc q1 (by decide)) rfl q0 ?_
  refine xm_E_s r_X11_is_2 rfl rfl ?_
  refine xm_E_f q2 ?_
  refine xm_E_s r_X11_is_3 rfl rfl ?_
  refine xm_E_s r_X11_is_4 rfl (xm_T_gi rfl q1 rfl (Or.inl rfl)) ?_
  refine xm_E_s r_X11_is_5 rfl rfl ?_
  refine xm_E_s r_X11_is_6 rfl rfl ?_
  refine xm_E_f q3 ?_
  refine xm_E_s r_X11_is_17 rfl rfl ?_
  refine xm_E_s (ls1 := [some (.ref l0), some (.ref l1), some (.int (0 : Int32)), none]) r_X11_is_18 rfl rfl ?_
  refine xm_E_s r_X11_is_19 rfl rfl ?_
  refine xm_E_s (ls1 := [some (.ref l0), some (.ref l1), some (.int (0 : Int32)), some (.int (0 : Int32))]) r_X11_is_20 rfl rfl ?_
  exact K
theorem p_X11_is_21_0 {X : xm_X} {P : List xm_M} {d : Nat} {h : xm_H} {l0 : Nat} {l1 : Nat} {l2 : Int32} {l3 : Int32} {h0 : xm_H} {r0 : Int32} (q0 : xm_V X P d 15 [.ref l1] h (some (.int r0)) h0) (q1 : X.2.2.1 l1 0 = some (.int 0)) (q2 : r0 ≤ l3) (q3 : xm_okr 3 l2 = true) : xm_E X P d co_X11_is 21 [some (.ref l0), some (.ref l1), some (.int l2), some (.int l3)] [] h (some (.int l2)) h0 := by
  refine xm_E_s r_X11_is_21 rfl rfl ?_
  refine xm_E_s r_X11_is_22 rfl rfl ?_
  refine xm_E_cv [.ref l1] [.int l3] r_X11_is_23 rfl rfl (Nat.le_of_ble_eq_true rfl) (xm_rs q1) rfl q0 ?_
  refine xm_E_s r_X11_is_24 rfl rfl ?_
  refine xm_E_t q2 ?_
  refine xm_E_s r_X11_is_44 rfl rfl ?_
  exact xm_E_iret r_X11_is_45 rfl q3
theorem p_X11_is_21_1 {X : xm_X} {P : List xm_M} {d : Nat} {h : xm_H} {l0 : Nat} {l1 : Nat} {l2 : Int32} {l3 : Int32} {h0 : xm_H} {r0 : Int32} (q0 : xm_V X P d 15 [.ref l1] h (some (.int r0)) h0) (q1 : X.2.2.1 l1 0 = some (.int 0)) (q2 : ¬ (r0 ≤ l3)) (q3 : l2 = (0 : Int32)) (q4 : xm_okr 3 l2 = true) : xm_E X P d co_X11_is 21 [some (.ref l0), some (.ref l1), some (.int l2), some (.int l3)] [] h (some (.int l2)) h0 := by
  refine xm_E_s r_X11_is_21 rfl rfl ?_
  refine xm_E_s r_X11_is_22 rfl rfl ?_
  refine xm_E_cv [.ref l1] [.int l3] r_X11_is_23 rfl rfl (Nat.le_of_ble_eq_true rfl) (xm_rs q1) rfl q0 ?_
  refine xm_E_s r_X11_is_24 rfl rfl ?_
  refine xm_E_f q2 ?_
  refine xm_E_s r_X11_is_25 rfl rfl ?_
  refine xm_E_s r_X11_is_26 rfl rfl ?_
  refine xm_E_t q3 ?_
  refine xm_E_s r_X11_is_44 rfl rfl ?_
  exact xm_E_iret r_X11_is_45 rfl q4
theorem p_X11_is_21_2 {X : xm_X} {P : List xm_M} {d : Nat} {h : xm_H} {l0 : Nat} {l1 : Nat} {l2 : Int32} {l3 : Int32} {h0 : xm_H} {r0 : Int32} {v1 : Nat} {n2 : Nat} {b2 : Nat} {h3 : xm_H} {r3 : Int32} {ro : Option Value} {ho : xm_H} (q0 : xm_V X P d 15 [.ref l1] h (some (.int r0)) h0) (q1 : X.2.2.1 l1 0 = some (.int 0)) (q2 : ¬ (r0 ≤ l3)) (q3 : ¬ (l2 = (0 : Int32))) (q4 : X.1[l0]? = some (.inr 10)) (q5 : h0.2.2 l0 4 = some v1) (q6 : X.1[v1]? = some (.inl (b2, n2))) (q7 : ¬ ((h0.1 l0 9) + l3 < 0 ∨ n2 ≤ ((h0.1 l0 9) + l3).toNatClampNeg)) (q8 : 1 ≤ b2 ∧ b2 ≤ 2) (q9 : xm_V X P d 17 [.ref l1, .int l3] h0 (some (.int r3)) h3) (q10 : h0.1 v1 (((h0.1 l0 9) + l3).toNatClampNeg) = r3) (K : xm_E X P d co_X11_is 21 [some (.ref l0), some (.ref l1), some (.int (1 : Int32)), some (.int (l3 + (1 : Int32)))] [] h3 ro ho) : xm_E X P d co_X11_is 21 [some (.ref l0), some (.ref l1), some (.int l2), some (.int l3)] [] h ro ho := by
  refine xm_E_s r_X11_is_21 rfl rfl ?_
  refine xm_E_s r_X11_is_22 rfl rfl ?_
  refine xm_E_cv [.ref l1] [.int l3] r_X11_is_23 rfl rfl (Nat.le_of_ble_eq_true rfl) (xm_rs q1) rfl q0 ?_
  refine xm_E_s r_X11_is_24 rfl rfl ?_
  refine xm_E_f q2 ?_
  refine xm_E_s r_X11_is_25 rfl rfl ?_
  refine xm_E_s r_X11_is_26 rfl rfl ?_
  refine xm_E_f q3 ?_
  refine xm_E_s r_X11_is_27 rfl rfl ?_
  refine xm_E_s r_X11_is_28 rfl (xm_T_gr rfl q4 rfl rfl q5) ?_
  refine xm_E_s r_X11_is_29 rfl rfl ?_
  refine xm_E_s r_X11_is_30 rfl (xm_T_gi rfl q4 rfl (Or.inl rfl)) ?_
  refine xm_E_s r_X11_is_31 rfl rfl ?_
  refine xm_E_s r_X11_is_32 rfl rfl ?_
  refine xm_E_s r_X11_is_33 rfl (xm_T_bald rfl q6 q8 q7) ?_
  refine xm_E_s r_X11_is_34 rfl rfl ?_
  refine xm_E_s r_X11_is_35 rfl rfl ?_
  refine xm_E_cv [.ref l1, .int l3] [.int (h0.1 v1 (((h0.1 l0 9) + l3).toNatClampNeg))] r_X11_is_36 rfl rfl (Nat.le_of_ble_eq_true rfl) (xm_rs q1) rfl q9 ?_
  refine xm_E_s r_X11_is_37 rfl rfl ?_
  refine xm_E_t q10 ?_
  refine xm_E_s r_X11_is_38 rfl rfl ?_
  refine xm_E_s r_X11_is_39 rfl rfl ?_
  refine xm_E_s (ls1 := [some (.ref l0), some (.ref l1), some (.int (1 : Int32)), some (.int l3)]) r_X11_is_41 rfl rfl ?_
  refine xm_E_s (ls1 := [some (.ref l0), some (.ref l1), some (.int (1 : Int32)), some (.int (l3 + (1 : Int32)))]) r_X11_is_42 rfl rfl ?_
  refine xm_E_s r_X11_is_43 rfl rfl ?_
  exact K
theorem p_X11_is_21_3 {X : xm_X} {P : List xm_M} {d : Nat} {h : xm_H} {l0 : Nat} {l1 : Nat} {l2 : Int32} {l3 : Int32} {h0 : xm_H} {r0 : Int32} {v1 : Nat} {n2 : Nat} {b2 : Nat} {h3 : xm_H} {r3 : Int32} {ro : Option Value} {ho : xm_H} (q0 : xm_V X P d 15 [.ref l1] h (some (.int r0)) h0) (q1 : X.2.2.1 l1 0 = some (.int 0)) (q2 : ¬ (r0 ≤ l3)) (q3 : ¬ (l2 = (0 : Int32))) (q4 : X.1[l0]? = some (.inr 10)) (q5 : h0.2.2 l0 4 = some v1) (q6 : X.1[v1]? = some (.inl (b2, n2))) (q7 : ¬ ((h0.1 l0 9) + l3 < 0 ∨ n2 ≤ ((h0.1 l0 9) + l3).toNatClampNeg)) (q8 : 1 ≤ b2 ∧ b2 ≤ 2) (q9 : xm_V X P d 17 [.ref l1, .int l3] h0 (some (.int r3)) h3) (q10 : ¬ (h0.1 v1 (((h0.1 l0 9) + l3).toNatClampNeg) = r3)) (K : xm_E X P d co_X11_is 21 [some (.ref l0), some (.ref l1), some (.int (0 : Int32)), some (.int (l3 + (1 : Int32)))] [] h3 ro ho) : xm_E X P d co_X11_is 21 [some (.ref l0), some (.ref l1), some (.int l2), some (.int l3)] [] h ro ho := by
  refine xm_E_s r_X11_is_21 rfl rfl ?_
  refine xm_E_s r_X11_is_22 rfl rfl ?_
  refine xm_E_cv [.ref l1] [.int l3] r_X11_is_23 rfl rfl (Nat.le_of_ble_eq_true rfl) (xm_rs q1) rfl q0 ?_
  refine xm_E_s r_X11_is_24 rfl rfl ?_
  refine xm_E_f q2 ?_
  refine xm_E_s r_X11_is_25 rfl rfl ?_
  refine xm_E_s r_X11_is_26 rfl rfl ?_
  refine xm_E_f q3 ?_
  refine xm_E_s r_X11_is_27 rfl rfl ?_
  refine xm_E_s r_X11_is_28 rfl (xm_T_gr rfl q4 rfl rfl q5) ?_
  refine xm_E_s r_X11_is_29 rfl rfl ?_
  refine xm_E_s r_X11_is_30 rfl (xm_T_gi rfl q4 rfl (Or.inl rfl)) ?_
  refine xm_E_s r_X11_is_31 rfl rfl ?_
  refine xm_E_s r_X11_is_32 rfl rfl ?_
  refine xm_E_s r_X11_is_33 rfl (xm_T_bald rfl q6 q8 q7) ?_
  refine xm_E_s r_X11_is_34 rfl rfl ?_
  refine xm_E_s r_X11_is_35 rfl rfl ?_
  refine xm_E_cv [.ref l1, .int l3] [.int (h0.1 v1 (((h0.1 l0 9) + l3).toNatClampNeg))] r_X11_is_36 rfl rfl (Nat.le_of_ble_eq_true rfl) (xm_rs q1) rfl q9 ?_
  refine xm_E_s r_X11_is_37 rfl rfl ?_
  refine xm_E_f q10 ?_
  refine xm_E_s r_X11_is_40 rfl rfl ?_
  refine xm_E_s (ls1 := [some (.ref l0), some (.ref l1), some (.int (0 : Int32)), some (.int l3)]) r_X11_is_41 rfl rfl ?_
  refine xm_E_s (ls1 := [some (.ref l0), some (.ref l1), some (.int (0 : Int32)), some (.int (l3 + (1 : Int32)))]) r_X11_is_42 rfl rfl ?_
  refine xm_E_s r_X11_is_43 rfl rfl ?_
  exact K
theorem r_X11_errs_0 : co_X11_errs[0]? = some ((0, .aload_n 0, 0, 0, 0, 0, 0, 0, []) : xm_I) := rfl
theorem r_X11_errs_1 : co_X11_errs[1]? = some ((1, .invokevirtual 128, 1540, 199, 1, 10, 0, 0, []) : xm_I) := rfl
theorem r_X11_errs_2 : co_X11_errs[2]? = some ((4, .ifCond .ne 4, 0, 0, 4, 0, 0, 0, []) : xm_I) := rfl
theorem r_X11_errs_3 : co_X11_errs[3]? = some ((7, .return_, 0, 0, 0, 0, 0, 0, []) : xm_I) := rfl
theorem r_X11_errs_4 : co_X11_errs[4]? = some ((8, .aload_n 0, 0, 0, 0, 0, 0, 0, []) : xm_I) := rfl
theorem r_X11_errs_5 : co_X11_errs[5]? = some ((9, .iload_n 1, 0, 0, 0, 0, 0, 0, []) : xm_I) := rfl
theorem r_X11_errs_6 : co_X11_errs[6]? = some ((10, .putfield 125, 1392, 10, 12, 0, 0, 0, []) : xm_I) := rfl
theorem r_X11_errs_7 : co_X11_errs[7]? = some ((13, .aload_n 0, 0, 0, 0, 0, 0, 0, []) : xm_I) := rfl
theorem r_X11_errs_8 : co_X11_errs[8]? = some ((14, .aload_n 0, 0, 0, 0, 0, 0, 0, []) : xm_I) := rfl
theorem r_X11_errs_9 : co_X11_errs[9]? = some ((15, .getfield 101, 1389, 10, 9, 0, 0, 0, []) : xm_I) := rfl
theorem r_X11_errs_10 : co_X11_errs[10]? = some ((18, .putfield 27, 1393, 10, 13, 0, 0, 0, []) : xm_I) := rfl
theorem r_X11_errs_11 : co_X11_errs[11]? = some ((21, .return_, 0, 0, 0, 0, 0, 0, []) : xm_I) := rfl
theorem p_X11_errs_0_0 {X : xm_X} {P : List xm_M} {d : Nat} {h : xm_H} {l0 : Nat} {l1 : Int32} {h0 : xm_H} {r0 : Int32} (q0 : xm_V X P d 199 [.ref l0] h (some (.int r0)) h0) (q1 : X.1[l0]? = some (.inr 10)) (q2 : r0 = (0 : Int32)) : xm_E X P d co_X11_errs 0 [some (.ref l0), some (.int l1)] [] h none h0 := by
  refine xm_E_s r_X11_errs_0 rfl rfl ?_
  refine xm_E_cv [.ref l0] [] r_X11_errs_1 rfl rfl (Nat.le_of_ble_eq_true rfl) (xm_rc q1 (by decide)) rfl q0 ?_
  refine xm_E_s r_X11_errs_2 rfl rfl ?_
  refine xm_E_t q2 ?_
  exact xm_E_ret r_X11_errs_3 rfl
theorem p_X11_errs_0_1 {X : xm_X} {P : List xm_M} {d : Nat} {h : xm_H} {l0 : Nat} {l1 : Int32} {h0 : xm_H} {r0 : Int32} (q0 : xm_V X P d 199 [.ref l0] h (some (.int r0)) h0) (q1 : X.1[l0]? = some (.inr 10)) (q2 : ¬ (r0 = (0 : Int32))) : xm_E X P d co_X11_errs 0 [some (.ref l0), some (.int l1)] [] h none (xm_si (xm_si h0 l0 12 l1) l0 13 ((xm_si h0 l0 12 l1).1 l0 9)) := by
  refine xm_E_s r_X11_errs_0 rfl rfl ?_
  refine xm_E_cv [.ref l0] [] r_X11_errs_1 rfl rfl (Nat.le_of_ble_eq_true rfl) (xm_rc q1 (by decide)) rfl q0 ?_
  refine xm_E_s r_X11_errs_2 rfl rfl ?_
  refine xm_E_f q2 ?_
  refine xm_E_s r_X11_errs_4 rfl rfl ?_
  refine xm_E_s r_X11_errs_5 rfl rfl ?_
  refine xm_E_s r_X11_errs_6 rfl (xm_T_pi rfl q1 rfl rfl) ?_
  refine xm_E_s r_X11_errs_7 rfl rfl ?_
  refine xm_E_s r_X11_errs_8 rfl rfl ?_
  refine xm_E_s r_X11_errs_9 rfl (xm_T_gi rfl q1 rfl (Or.inl rfl)) ?_
  refine xm_E_s r_X11_errs_10 rfl (xm_T_pi rfl q1 rfl rfl) ?_
  exact xm_E_ret r_X11_errs_11 rfl
theorem r_X11_told_0 : co_X11_told[0]? = some ((0, .aload_n 0, 0, 0, 0, 0, 0, 0, []) : xm_I) := rfl
theorem r_X11_told_1 : co_X11_told[1]? = some ((1, .aload_n 1, 0, 0, 0, 0, 0, 0, []) : xm_I) := rfl
theorem r_X11_told_2 : co_X11_told[2]? = some ((2, .invokevirtual 156, 1553, 202, 2, 10, 0, 0, []) : xm_I) := rfl
theorem r_X11_told_3 : co_X11_told[3]? = some ((5, .aload_n 0, 0, 0, 0, 0, 0, 0, []) : xm_I) := rfl
theorem r_X11_told_4 : co_X11_told[4]? = some ((6, .iload_n 2, 0, 0, 0, 0, 0, 0, []) : xm_I) := rfl
theorem r_X11_told_5 : co_X11_told[5]? = some ((7, .iload_n 3, 0, 0, 0, 0, 0, 0, []) : xm_I) := rfl
theorem r_X11_told_6 : co_X11_told[6]? = some ((8, .invokevirtual 160, 1576, 207, 3, 10, 0, 0, []) : xm_I) := rfl
theorem r_X11_told_7 : co_X11_told[7]? = some ((11, .ireturn, 0, 0, 0, 0, 0, 0, []) : xm_I) := rfl
theorem p_X11_told_0_0 {X : xm_X} {P : List xm_M} {d : Nat} {h : xm_H} {l0 : Nat} {l1 : Nat} {l2 : Int32} {l3 : Int32} {h0 : xm_H} {h1 : xm_H} {r1 : Int32} (q0 : xm_V X P d 202 [.ref l0, .ref l1] h none h0) (q1 : X.1[l0]? = some (.inr 10)) (q2 : xm_V X P d 207 [.ref l0, .int l2, .int l3] h0 (some (.int r1)) h1) : xm_E X P d co_X11_told 0 [some (.ref l0), some (.ref l1), some (.int l2), some (.int l3)] [] h (some (.int r1)) h1 := by
  refine xm_E_s r_X11_told_0 rfl rfl ?_
  refine xm_E_s r_X11_told_1 rfl rfl ?_
  refine xm_E_cv [.ref l0, .ref l1] [] r_X11_told_2 rfl rfl (Nat.le_of_ble_eq_true rfl) (xm_rc q1 (by decide)) rfl q0 ?_
  refine xm_E_s r_X11_told_3 rfl rfl ?_
  refine xm_E_s r_X11_told_4 rfl rfl ?_
  refine xm_E_s r_X11_told_5 rfl rfl ?_
  refine xm_E_cv [.ref l0, .int l2, .int l3] [] r_X11_told_6 rfl rfl (Nat.le_of_ble_eq_true rfl) (xm_rc q1 (by decide)) rfl q2 ?_
  exact xm_E_iret r_X11_told_7 rfl rfl
theorem r_X11_number_0 : co_X11_number[0]? = some ((0, .aload_n 0, 0, 0, 0, 0, 0, 0, []) : xm_I) := rfl
theorem r_X11_number_1 : co_X11_number[1]? = some ((1, .invokevirtual 128, 1540, 199, 1, 10, 0, 0, []) : xm_I) := rfl
theorem r_X11_number_2 : co_X11_number[2]? = some ((4, .ifCond .eq 16, 0, 0, 10, 0, 0, 0, []) : xm_I) := rfl
theorem r_X11_number_3 : co_X11_number[3]? = some ((7, .aload_n 0, 0, 0, 0, 0, 0, 0, []) : xm_I) := rfl
theorem r_X11_number_4 : co_X11_number[4]? = some ((8, .getfield 104, 1390, 10, 10, 0, 0, 0, []) : xm_I) := rfl
theorem r_X11_number_5 : co_X11_number[5]? = some ((11, .iconst 2, 0, 0, 0, 0, 2, 0, []) : xm_I) := rfl
theorem r_X11_number_6 : co_X11_number[6]? = some ((12, .if_icmp .eq 8, 0, 0, 10, 0, 0, 0, []) : xm_I) := rfl
theorem r_X11_number_7 : co_X11_number[7]? = some ((15, .aload_n 0, 0, 0, 0, 0, 0, 0, []) : xm_I) := rfl
theorem r_X11_number_8 : co_X11_number[8]? = some ((16, .iconst 1, 0, 0, 0, 0, 1, 0, []) : xm_I) := rfl
theorem r_X11_number_9 : co_X11_number[9]? = some ((17, .invokevirtual 152, 1567, 205, 2, 10, 0, 0, []) : xm_I) := rfl
theorem r_X11_number_10 : co_X11_number[10]? = some ((20, .aload_n 0, 0, 0, 0, 0, 0, 0, []) : xm_I) := rfl
theorem r_X11_number_11 : co_X11_number[11]? = some ((21, .invokevirtual 128, 1540, 199, 1, 10, 0, 0, []) : xm_I) := rfl
theorem r_X11_number_12 : co_X11_number[12]? = some ((24, .ifCond .eq 23, 0, 0, 25, 0, 0, 0, []) : xm_I) := rfl
theorem r_X11_number_13 : co_X11_number[13]? = some ((27, .aload_n 0, 0, 0, 0, 0, 0, 0, []) : xm_I) := rfl
theorem r_X11_number_14 : co_X11_number[14]? = some ((28, .getfield 115, 1391, 10, 11, 0, 0, 0, []) : xm_I) := rfl
theorem r_X11_number_15 : co_X11_number[15]? = some ((31, .i2l, 0, 0, 0, 0, 0, 0, []) : xm_I) := rfl
theorem r_X11_number_16 : co_X11_number[16]? = some ((32, .iload_n 1, 0, 0, 0, 0, 0, 0, []) : xm_I) := rfl
theorem r_X11_number_17 : co_X11_number[17]? = some ((33, .i2l, 0, 0, 0, 0, 0, 0, []) : xm_I) := rfl
theorem r_X11_number_18 : co_X11_number[18]? = some ((34, .iload_n 2, 0, 0, 0, 0, 0, 0, []) : xm_I) := rfl
theorem r_X11_number_19 : co_X11_number[19]? = some ((35, .i2l, 0, 0, 0, 0, 0, 0, []) : xm_I) := rfl
theorem r_X11_number_20 : co_X11_number[20]? = some ((36, .invokestatic 84, 1503, 191, 3, 0, 0, 0, []) : xm_I) := rfl
theorem r_X11_number_21 : co_X11_number[21]? = some ((39, .ifCond .ne 8, 0, 0, 25, 0, 0, 0, []) : xm_I) := rfl
theorem r_X11_number_22 : co_X11_number[22]? = some ((42, .aload_n 0, 0, 0, 0, 0, 0, 0, []) : xm_I) := rfl
theorem r_X11_number_23 : co_X11_number[23]? = some ((43, .iconst 2, 0, 0, 0, 0, 2, 0, []) : xm_I) := rfl
theorem r_X11_number_24 : co_X11_number[24]? = some ((44, .invokevirtual 152, 1567, 205, 2, 10, 0, 0, []) : xm_I) := rfl
theorem r_X11_number_25 : co_X11_number[25]? = some ((47, .aload_n 0, 0, 0, 0, 0, 0, 0, []) : xm_I) := rfl
theorem r_X11_number_26 : co_X11_number[26]? = some ((48, .invokevirtual 128, 1540, 199, 1, 10, 0, 0, []) : xm_I) := rfl
theorem r_X11_number_27 : co_X11_number[27]? = some ((51, .ifCond .ne 5, 0, 0, 30, 0, 0, 0, []) : xm_I) := rfl
theorem r_X11_number_28 : co_X11_number[28]? = some ((54, .iconst 0, 0, 0, 0, 0, 0, 0, []) : xm_I) := rfl
theorem r_X11_number_29 : co_X11_number[29]? = some ((55, .ireturn, 0, 0, 0, 0, 0, 0, []) : xm_I) := rfl
theorem r_X11_number_30 : co_X11_number[30]? = some ((56, .aload_n 0, 0, 0, 0, 0, 0, 0, []) : xm_I) := rfl
theorem r_X11_number_31 : co_X11_number[31]? = some ((57, .getfield 115, 1391, 10, 11, 0, 0, 0, []) : xm_I) := rfl
theorem r_X11_number_32 : co_X11_number[32]? = some ((60, .istore_n 3, 0, 0, 0, 0, 0, 0, []) : xm_I) := rfl
theorem r_X11_number_33 : co_X11_number[33]? = some ((61, .aload_n 0, 0, 0, 0, 0, 0, 0, []) : xm_I) := rfl
theorem r_X11_number_34 : co_X11_number[34]? = some ((62, .invokevirtual 146, 1526, 197, 1, 10, 0, 0, []) : xm_I) := rfl
theorem r_X11_number_35 : co_X11_number[35]? = some ((65, .iload_n 3, 0, 0, 0, 0, 0, 0, []) : xm_I) := rfl
theorem r_X11_number_36 : co_X11_number[36]? = some ((66, .ireturn, 0, 0, 0, 0, 0, 0, []) : xm_I) := rfl
theorem p_X11_number_0_0 {X : xm_X} {P : List xm_M} {d : Nat} {h : xm_H} {l0 : Nat} {l1 : Int32} {l2 : Int32} {h0 : xm_H} {r0 : Int32} {ro : Option Value} {ho : xm_H} (q0 : xm_V X P d 199 [.ref l0] h (some (.int r0)) h0) (q1 : X.1[l0]? = some (.inr 10)) (q2 : r0 = (0 : Int32)) (K : xm_E X P d co_X11_number 10 [some (.ref l0), some (.int l1), some (.int l2), none] [] h0 ro ho) : xm_E X P d co_X11_number 0 [some (.ref l0), some (.int l1), some (.int l2), none] [] h ro ho := by
  refine xm_E_s r_X11_number_0 rfl rfl ?_
  refine xm_E_cv [.ref l0] [] r_X11_number_1 rfl rfl (Nat.le_of_ble_eq_true rfl) (xm_rc q1 (by decide)) rfl q0 ?_
  refine xm_E_s r_X11_number_2 rfl rfl ?_
  refine xm_E_t q2 ?_
  exact K
theorem p_X11_number_0_1 {X : xm_X} {P : List xm_M} {d : Nat} {h : xm_H} {l0 : Nat} {l1 : Int32} {l2 : Int32} {h0 : xm_H} {r0 : Int32} {ro : Option Value} {ho : xm_H} (q0 : xm_V X P d 199 [.ref l0] h (some (.int r0)) h0) (q1 : X.1[l0]? = some (.inr 10)) (q2 : ¬ (r0 = (0 : Int32))) (q3 : h0.1 l0 10 = (2 : Int32)) (K : xm_E X P d co_X11_number 10 [some (.ref l0), some (.int l1), some (.int l2), none] [] h0 ro ho) : xm_E X P d co_X11_number 0 [some (.ref l0), some (.int l1), some (.int l2), none] [] h ro ho := by
  refine xm_E_s r_X11_number_0 rfl rfl ?_
  refine xm_E_cv [.ref l0] [] r_X11_number_1 rfl rfl (Nat.le_of_ble_eq_true rfl) (xm_rc q1 (by decide)) rfl q0 ?_
  refine xm_E_s r_X11_number_2 rfl rfl ?_
  refine xm_E_f q2 ?_
  refine xm_E_s r_X11_number_3 rfl rfl ?_
  refine xm_E_s r_X11_number_4 rfl (xm_T_gi rfl q1 rfl (Or.inl rfl)) ?_
  refine xm_E_s r_X11_number_5 rfl rfl ?_
  refine xm_E_s r_X11_number_6 rfl rfl ?_
  refine xm_E_t q3 ?_
  exact K
theorem p_X11_number_0_2 {X : xm_X} {P : List xm_M} {d : Nat} {h : xm_H} {l0 : Nat} {l1 : Int32} {l2 : Int32} {h0 : xm_H} {r0 : Int32} {h1 : xm_H} {ro : Option Value} {ho : xm_H} (q0 : xm_V X P d 199 [.ref l0] h (some (.int r0)) h0) (q1 : X.1[l0]? = some (.inr 10)) (q2 : ¬ (r0 = (0 : Int32))) (q3 : ¬ (h0.1 l0 10 = (2 : Int32))) (q4 : xm_V X P d 205 [.ref l0, .int (1 : Int32)] h0 none h1) (K : xm_E X P d co_X11_number 10 [some (.ref l0), some (.int l1), some (.int l2), none] [] h1 ro ho) : xm_E X P d co_X11_number 0 [some (.ref l0), some (.int l1), some (.int l2), none] [] h ro ho := by
  refine xm_E_s r_X11_number_0 rfl rfl ?_
  refine xm_E_cv [.ref l0] [] r_X11_number_1 rfl rfl (Nat.le_of_ble_eq_true rfl) (xm_rc q1 (by decide)) rfl q0 ?_
  refine xm_E_s r_X11_number_2 rfl rfl ?_
  refine xm_E_f q2 ?_
  refine xm_E_s r_X11_number_3 rfl rfl ?_
  refine xm_E_s r_X11_number_4 rfl (xm_T_gi rfl q1 rfl (Or.inl rfl)) ?_
  refine xm_E_s r_X11_number_5 rfl rfl ?_
  refine xm_E_s r_X11_number_6 rfl rfl ?_
  refine xm_E_f q3 ?_
  refine xm_E_s r_X11_number_7 rfl rfl ?_
  refine xm_E_s r_X11_number_8 rfl rfl ?_
  refine xm_E_cv [.ref l0, .int (1 : Int32)] [] r_X11_number_9 rfl rfl (Nat.le_of_ble_eq_true rfl) (xm_rc q1 (by decide)) rfl q4 ?_
  exact K
theorem p_X11_number_10_0 {X : xm_X} {P : List xm_M} {d : Nat} {h : xm_H} {l0 : Nat} {l1 : Int32} {l2 : Int32} {h0 : xm_H} {r0 : Int32} {h1 : xm_H} {r1 : Int32} (q0 : xm_V X P d 199 [.ref l0] h (some (.int r0)) h0) (q1 : X.1[l0]? = some (.inr 10)) (q2 : r0 = (0 : Int32)) (q3 : xm_V X P d 199 [.ref l0] h0 (some (.int r1)) h1) (q4 : r1 = (0 : Int32)) : xm_E X P d co_X11_number 10 [some (.ref l0), some (.int l1), some (.int l2), none] [] h (some (.int (0 : Int32))) h1 := by
  refine xm_E_s r_X11_number_10 rfl rfl ?_
  refine xm_E_cv [.ref l0] [] r_X11_number_11 rfl rfl (Nat.le_of_ble_eq_true rfl) (xm_rc q1 (by decide)) rfl q0 ?_
  refine xm_E_s r_X11_number_12 rfl rfl ?_
  refine xm_E_t q2 ?_
  refine xm_E_s r_X11_number_25 rfl rfl ?_
  refine xm_E_cv [.ref l0] [] r_X11_number_26 rfl rfl (Nat.le_of_ble_eq_true rfl) (xm_rc q1 (by decide)) rfl q3 ?_
  refine xm_E_s r_X11_number_27 rfl rfl ?_
  refine xm_E_t q4 ?_
  refine xm_E_s r_X11_number_28 rfl rfl ?_
  exact xm_E_iret r_X11_number_29 rfl rfl
theorem p_X11_number_10_1 {X : xm_X} {P : List xm_M} {d : Nat} {h : xm_H} {l0 : Nat} {l1 : Int32} {l2 : Int32} {h0 : xm_H} {r0 : Int32} {h1 : xm_H} {r1 : Int32} {h2 : xm_H} (q0 : xm_V X P d 199 [.ref l0] h (some (.int r0)) h0) (q1 : X.1[l0]? = some (.inr 10)) (q2 : r0 = (0 : Int32)) (q3 : xm_V X P d 199 [.ref l0] h0 (some (.int r1)) h1) (q4 : ¬ (r1 = (0 : Int32))) (q5 : xm_V X P d 197 [.ref l0] h1 none h2) : xm_E X P d co_X11_number 10 [some (.ref l0), some (.int l1), some (.int l2), none] [] h (some (.int (h1.1 l0 11))) h2 := by
  refine xm_E_s r_X11_number_10 rfl rfl ?_
  refine xm_E_cv [.ref l0] [] r_X11_number_11 rfl rfl (Nat.le_of_ble_eq_true rfl) (xm_rc q1 (by decide)) rfl q0 ?_
  refine xm_E_s r_X11_number_12 rfl rfl ?_
  refine xm_E_t q2 ?_
  refine xm_E_s r_X11_number_25 rfl rfl ?_
  refine xm_E_cv [.ref l0] [] r_X11_number_26 rfl rfl (Nat.le_of_ble_eq_true rfl) (xm_rc q1 (by decide)) rfl q3 ?_
  refine xm_E_s r_X11_number_27 rfl rfl ?_
  refine xm_E_f q4 ?_
  refine xm_E_s r_X11_number_30 rfl rfl ?_
  refine xm_E_s r_X11_number_31 rfl (xm_T_gi rfl q1 rfl (Or.inl rfl)) ?_
  refine xm_E_s (ls1 := [some (.ref l0), some (.int l1), some (.int l2), some (.int (h1.1 l0 11))]) r_X11_number_32 rfl rfl ?_
  refine xm_E_s r_X11_number_33 rfl rfl ?_
  refine xm_E_cv [.ref l0] [] r_X11_number_34 rfl rfl (Nat.le_of_ble_eq_true rfl) (xm_rc q1 (by decide)) rfl q5 ?_
  refine xm_E_s r_X11_number_35 rfl rfl ?_
  exact xm_E_iret r_X11_number_36 rfl rfl
theorem p_X11_number_10_2 {X : xm_X} {P : List xm_M} {d : Nat} {h : xm_H} {l0 : Nat} {l1 : Int32} {l2 : Int32} {h0 : xm_H} {r0 : Int32} {h1 : xm_H} {r1 : Int32} {h2 : xm_H} {h3 : xm_H} {r3 : Int32} (q0 : xm_V X P d 199 [.ref l0] h (some (.int r0)) h0) (q1 : X.1[l0]? = some (.inr 10)) (q2 : ¬ (r0 = (0 : Int32))) (q3 : xm_V X P d 191 [.long ((h0.1 l0 11).toInt64), .long l1.toInt64, .long l2.toInt64] h0 (some (.int r1)) h1) (q4 : r1 = (0 : Int32)) (q5 : xm_V X P d 205 [.ref l0, .int (2 : Int32)] h1 none h2) (q6 : xm_V X P d 199 [.ref l0] h2 (some (.int r3)) h3) (q7 : r3 = (0 : Int32)) : xm_E X P d co_X11_number 10 [some (.ref l0), some (.int l1), some (.int l2), none] [] h (some (.int (0 : Int32))) h3 := by
  refine xm_E_s r_X11_number_10 rfl rfl ?_
  refine xm_E_cv [.ref l0] [] r_X11_number_11 rfl rfl (Nat.le_of_ble_eq_true rfl) (xm_rc q1 (by decide)) rfl q0 ?_
  refine xm_E_s r_X11_number_12 rfl rfl ?_
  refine xm_E_f q2 ?_
  refine xm_E_s r_X11_number_13 rfl rfl ?_
  refine xm_E_s r_X11_number_14 rfl (xm_T_gi rfl q1 rfl (Or.inl rfl)) ?_
  refine xm_E_s r_X11_number_15 rfl rfl ?_
  refine xm_E_s r_X11_number_16 rfl rfl ?_
  refine xm_E_s r_X11_number_17 rfl rfl ?_
  refine xm_E_s r_X11_number_18 rfl rfl ?_
  refine xm_E_s r_X11_number_19 rfl rfl ?_
  refine xm_E_cs [.long ((h0.1 l0 11).toInt64), .long l1.toInt64, .long l2.toInt64] [] r_X11_number_20 rfl rfl rfl (Nat.le_of_ble_eq_true rfl) rfl q3 ?_
  refine xm_E_s r_X11_number_21 rfl rfl ?_
  refine xm_E_t q4 ?_
  refine xm_E_s r_X11_number_22 rfl rfl ?_
  refine xm_E_s r_X11_number_23 rfl rfl ?_
  refine xm_E_cv [.ref l0, .int (2 : Int32)] [] r_X11_number_24 rfl rfl (Nat.le_of_ble_eq_true rfl) (xm_rc q1 (by decide)) rfl q5 ?_
  refine xm_E_s r_X11_number_25 rfl rfl ?_
  refine xm_E_cv [.ref l0] [] r_X11_number_26 rfl rfl (Nat.le_of_ble_eq_true rfl) (xm_rc q1 (by decide)) rfl q6 ?_
  refine xm_E_s r_X11_number_27 rfl rfl ?_
  refine xm_E_t q7 ?_
  refine xm_E_s r_X11_number_28 rfl rfl ?_
  exact xm_E_iret r_X11_number_29 rfl rfl
theorem p_X11_number_10_3 {X : xm_X} {P : List xm_M} {d : Nat} {h : xm_H} {l0 : Nat} {l1 : Int32} {l2 : Int32} {h0 : xm_H} {r0 : Int32} {h1 : xm_H} {r1 : Int32} {h2 : xm_H} {h3 : xm_H} {r3 : Int32} {h4 : xm_H} (q0 : xm_V X P d 199 [.ref l0] h (some (.int r0)) h0) (q1 : X.1[l0]? = some (.inr 10)) (q2 : ¬ (r0 = (0 : Int32))) (q3 : xm_V X P d 191 [.long ((h0.1 l0 11).toInt64), .long l1.toInt64, .long l2.toInt64] h0 (some (.int r1)) h1) (q4 : r1 = (0 : Int32)) (q5 : xm_V X P d 205 [.ref l0, .int (2 : Int32)] h1 none h2) (q6 : xm_V X P d 199 [.ref l0] h2 (some (.int r3)) h3) (q7 : ¬ (r3 = (0 : Int32))) (q8 : xm_V X P d 197 [.ref l0] h3 none h4) : xm_E X P d co_X11_number 10 [some (.ref l0), some (.int l1), some (.int l2), none] [] h (some (.int (h3.1 l0 11))) h4 := by
  refine xm_E_s r_X11_number_10 rfl rfl ?_
  refine xm_E_cv [.ref l0] [] r_X11_number_11 rfl rfl (Nat.le_of_ble_eq_true rfl) (xm_rc q1 (by decide)) rfl q0 ?_
  refine xm_E_s r_X11_number_12 rfl rfl ?_
  refine xm_E_f q2 ?_
  refine xm_E_s r_X11_number_13 rfl rfl ?_
  refine xm_E_s r_X11_number_14 rfl (xm_T_gi rfl q1 rfl (Or.inl rfl)) ?_
  refine xm_E_s r_X11_number_15 rfl rfl ?_
  refine xm_E_s r_X11_number_16 rfl rfl ?_
  refine xm_E_s r_X11_number_17 rfl rfl ?_
  refine xm_E_s r_X11_number_18 rfl rfl ?_
  refine xm_E_s r_X11_number_19 rfl rfl ?_
  refine xm_E_cs [.long ((h0.1 l0 11).toInt64), .long l1.toInt64, .long l2.toInt64] [] r_X11_number_20 rfl rfl rfl (Nat.le_of_ble_eq_true rfl) rfl q3 ?_
  refine xm_E_s r_X11_number_21 rfl rfl ?_
  refine xm_E_t q4 ?_
  refine xm_E_s r_X11_number_22 rfl rfl ?_
  refine xm_E_s r_X11_number_23 rfl rfl ?_
  refine xm_E_cv [.ref l0, .int (2 : Int32)] [] r_X11_number_24 rfl rfl (Nat.le_of_ble_eq_true rfl) (xm_rc q1 (by decide)) rfl q5 ?_
  refine xm_E_s r_X11_number_25 rfl rfl ?_
  refine xm_E_cv [.ref l0] [] r_X11_number_26 rfl rfl (Nat.le_of_ble_eq_true rfl) (xm_rc q1 (by decide)) rfl q6 ?_
  refine xm_E_s r_X11_number_27 rfl rfl ?_
  refine xm_E_f q7 ?_
  refine xm_E_s r_X11_number_30 rfl rfl ?_
  refine xm_E_s r_X11_number_31 rfl (xm_T_gi rfl q1 rfl (Or.inl rfl)) ?_
  refine xm_E_s (ls1 := [some (.ref l0), some (.int l1), some (.int l2), some (.int (h3.1 l0 11))]) r_X11_number_32 rfl rfl ?_
  refine xm_E_s r_X11_number_33 rfl rfl ?_
  refine xm_E_cv [.ref l0] [] r_X11_number_34 rfl rfl (Nat.le_of_ble_eq_true rfl) (xm_rc q1 (by decide)) rfl q8 ?_
  refine xm_E_s r_X11_number_35 rfl rfl ?_
  exact xm_E_iret r_X11_number_36 rfl rfl
theorem p_X11_number_10_4 {X : xm_X} {P : List xm_M} {d : Nat} {h : xm_H} {l0 : Nat} {l1 : Int32} {l2 : Int32} {h0 : xm_H} {r0 : Int32} {h1 : xm_H} {r1 : Int32} {h2 : xm_H} {r2 : Int32} (q0 : xm_V X P d 199 [.ref l0] h (some (.int r0)) h0) (q1 : X.1[l0]? = some (.inr 10)) (q2 : ¬ (r0 = (0 : Int32))) (q3 : xm_V X P d 191 [.long ((h0.1 l0 11).toInt64), .long l1.toInt64, .long l2.toInt64] h0 (some (.int r1)) h1) (q4 : ¬ (r1 = (0 : Int32))) (q5 : xm_V X P d 199 [.ref l0] h1 (some (.int r2)) h2) (q6 : r2 = (0 : Int32)) : xm_E X P d co_X11_number 10 [some (.ref l0), some (.int l1), some (.int l2), none] [] h (some (.int (0 : Int32))) h2 := by
  refine xm_E_s r_X11_number_10 rfl rfl ?_
  refine xm_E_cv [.ref l0] [] r_X11_number_11 rfl rfl (Nat.le_of_ble_eq_true rfl) (xm_rc q1 (by decide)) rfl q0 ?_
  refine xm_E_s r_X11_number_12 rfl rfl ?_
  refine xm_E_f q2 ?_
  refine xm_E_s r_X11_number_13 rfl rfl ?_
  refine xm_E_s r_X11_number_14 rfl (xm_T_gi rfl q1 rfl (Or.inl rfl)) ?_
  refine xm_E_s r_X11_number_15 rfl rfl ?_
  refine xm_E_s r_X11_number_16 rfl rfl ?_
  refine xm_E_s r_X11_number_17 rfl rfl ?_
  refine xm_E_s r_X11_number_18 rfl rfl ?_
  refine xm_E_s r_X11_number_19 rfl rfl ?_
  refine xm_E_cs [.long ((h0.1 l0 11).toInt64), .long l1.toInt64, .long l2.toInt64] [] r_X11_number_20 rfl rfl rfl (Nat.le_of_ble_eq_true rfl) rfl q3 ?_
  refine xm_E_s r_X11_number_21 rfl rfl ?_
  refine xm_E_f q4 ?_
  refine xm_E_s r_X11_number_25 rfl rfl ?_
  refine xm_E_cv [.ref l0] [] r_X11_number_26 rfl rfl (Nat.le_of_ble_eq_true rfl) (xm_rc q1 (by decide)) rfl q5 ?_
  refine xm_E_s r_X11_number_27 rfl rfl ?_
  refine xm_E_t q6 ?_
  refine xm_E_s r_X11_number_28 rfl rfl ?_
  exact xm_E_iret r_X11_number_29 rfl rfl
theorem p_X11_number_10_5 {X : xm_X} {P : List xm_M} {d : Nat} {h : xm_H} {l0 : Nat} {l1 : Int32} {l2 : Int32} {h0 : xm_H} {r0 : Int32} {h1 : xm_H} {r1 : Int32} {h2 : xm_H} {r2 : Int32} {h3 : xm_H} (q0 : xm_V X P d 199 [.ref l0] h (some (.int r0)) h0) (q1 : X.1[l0]? = some (.inr 10)) (q2 : ¬ (r0 = (0 : Int32))) (q3 : xm_V X P d 191 [.long ((h0.1 l0 11).toInt64), .long l1.toInt64, .long l2.toInt64] h0 (some (.int r1)) h1) (q4 : ¬ (r1 = (0 : Int32))) (q5 : xm_V X P d 199 [.ref l0] h1 (some (.int r2)) h2) (q6 : ¬ (r2 = (0 : Int32))) (q7 : xm_V X P d 197 [.ref l0] h2 none h3) : xm_E X P d co_X11_number 10 [some (.ref l0), some (.int l1), some (.int l2), none] [] h (some (.int (h2.1 l0 11))) h3 := by
  refine xm_E_s r_X11_number_10 rfl rfl ?_
  refine xm_E_cv [.ref l0] [] r_X11_number_11 rfl rfl (Nat.le_of_ble_eq_true rfl) (xm_rc q1 (by decide)) rfl q0 ?_
  refine xm_E_s r_X11_number_12 rfl rfl ?_
  refine xm_E_f q2 ?_
  refine xm_E_s r_X11_number_13 rfl rfl ?_
  refine xm_E_s r_X11_number_14 rfl (xm_T_gi rfl q1 rfl (Or.inl rfl)) ?_
  refine xm_E_s r_X11_number_15 rfl rfl ?_
  refine xm_E_s r_X11_number_16 rfl rfl ?_
  refine xm_E_s r_X11_number_17 rfl rfl ?_
  refine xm_E_s r_X11_number_18 rfl rfl ?_
  refine xm_E_s r_X11_number_19 rfl rfl ?_
  refine xm_E_cs [.long ((h0.1 l0 11).toInt64), .long l1.toInt64, .long l2.toInt64] [] r_X11_number_20 rfl rfl rfl (Nat.le_of_ble_eq_true rfl) rfl q3 ?_
  refine xm_E_s r_X11_number_21 rfl rfl ?_
  refine xm_E_f q4 ?_
  refine xm_E_s r_X11_number_25 rfl rfl ?_
  refine xm_E_cv [.ref l0] [] r_X11_number_26 rfl rfl (Nat.le_of_ble_eq_true rfl) (xm_rc q1 (by decide)) rfl q5 ?_
  refine xm_E_s r_X11_number_27 rfl rfl ?_
  refine xm_E_f q6 ?_
  refine xm_E_s r_X11_number_30 rfl rfl ?_
  refine xm_E_s r_X11_number_31 rfl (xm_T_gi rfl q1 rfl (Or.inl rfl)) ?_
  refine xm_E_s (ls1 := [some (.ref l0), some (.int l1), some (.int l2), some (.int (h2.1 l0 11))]) r_X11_number_32 rfl rfl ?_
  refine xm_E_s r_X11_number_33 rfl rfl ?_
  refine xm_E_cv [.ref l0] [] r_X11_number_34 rfl rfl (Nat.le_of_ble_eq_true rfl) (xm_rc q1 (by decide)) rfl q7 ?_
  refine xm_E_s r_X11_number_35 rfl rfl ?_
  exact xm_E_iret r_X11_number_36 rfl rfl
theorem r_X11_readNext_0 : co_X11_readNext[0]? = some ((0, .aload_n 0, 0, 0, 0, 0, 0, 0, []) : xm_I) := rfl
theorem r_X11_readNext_1 : co_X11_readNext[1]? = some ((1, .invokevirtual 225, 1588, 209, 1, 10, 0, 0, []) : xm_I) := rfl
theorem r_X11_readNext_2 : co_X11_readNext[2]? = some ((4, .iconst (-1), 0, 0, 0, 0, (-1), 0, []) : xm_I) := rfl
theorem r_X11_readNext_3 : co_X11_readNext[3]? = some ((5, .if_icmp .ne 57, 0, 0, 28, 0, 0, 0, []) : xm_I) := rfl
theorem r_X11_readNext_4 : co_X11_readNext[4]? = some ((8, .aload_n 0, 0, 0, 0, 0, 0, 0, []) : xm_I) := rfl
theorem r_X11_readNext_5 : co_X11_readNext[5]? = some ((9, .ldc 227, 27, 0, 1054, 1, 0, 0, []) : xm_I) := rfl
theorem r_X11_readNext_6 : co_X11_readNext[6]? = some ((11, .invokevirtual 142, 1561, 204, 2, 10, 0, 0, []) : xm_I) := rfl
theorem r_X11_readNext_7 : co_X11_readNext[7]? = some ((14, .ifCond .ne 48, 0, 0, 28, 0, 0, 0, []) : xm_I) := rfl
theorem r_X11_readNext_8 : co_X11_readNext[8]? = some ((17, .aload_n 0, 0, 0, 0, 0, 0, 0, []) : xm_I) := rfl
theorem r_X11_readNext_9 : co_X11_readNext[9]? = some ((18, .ldc 229, 28, 0, 1056, 1, 0, 0, []) : xm_I) := rfl
theorem r_X11_readNext_10 : co_X11_readNext[10]? = some ((20, .invokevirtual 142, 1561, 204, 2, 10, 0, 0, []) : xm_I) := rfl
theorem r_X11_readNext_11 : co_X11_readNext[11]? = some ((23, .ifCond .ne 39, 0, 0, 28, 0, 0, 0, []) : xm_I) := rfl
theorem r_X11_readNext_12 : co_X11_readNext[12]? = some ((26, .aload_n 0, 0, 0, 0, 0, 0, 0, []) : xm_I) := rfl
theorem r_X11_readNext_13 : co_X11_readNext[13]? = some ((27, .ldc 231, 29, 0, 1058, 1, 0, 0, []) : xm_I) := rfl
theorem r_X11_readNext_14 : co_X11_readNext[14]? = some ((29, .invokevirtual 142, 1561, 204, 2, 10, 0, 0, []) : xm_I) := rfl
theorem r_X11_readNext_15 : co_X11_readNext[15]? = some ((32, .ifCond .ne 30, 0, 0, 28, 0, 0, 0, []) : xm_I) := rfl
theorem r_X11_readNext_16 : co_X11_readNext[16]? = some ((35, .aload_n 0, 0, 0, 0, 0, 0, 0, []) : xm_I) := rfl
theorem r_X11_readNext_17 : co_X11_readNext[17]? = some ((36, .ldc 233, 30, 0, 1060, 1, 0, 0, []) : xm_I) := rfl
theorem r_X11_readNext_18 : co_X11_readNext[18]? = some ((38, .invokevirtual 142, 1561, 204, 2, 10, 0, 0, []) : xm_I) := rfl
theorem r_X11_readNext_19 : co_X11_readNext[19]? = some ((41, .ifCond .ne 21, 0, 0, 28, 0, 0, 0, []) : xm_I) := rfl
theorem r_X11_readNext_20 : co_X11_readNext[20]? = some ((44, .aload_n 0, 0, 0, 0, 0, 0, 0, []) : xm_I) := rfl
theorem r_X11_readNext_21 : co_X11_readNext[21]? = some ((45, .ldc 235, 31, 0, 1062, 1, 0, 0, []) : xm_I) := rfl
theorem r_X11_readNext_22 : co_X11_readNext[22]? = some ((47, .invokevirtual 142, 1561, 204, 2, 10, 0, 0, []) : xm_I) := rfl
theorem r_X11_readNext_23 : co_X11_readNext[23]? = some ((50, .ifCond .ne 12, 0, 0, 28, 0, 0, 0, []) : xm_I) := rfl
theorem r_X11_readNext_24 : co_X11_readNext[24]? = some ((53, .aload_n 0, 0, 0, 0, 0, 0, 0, []) : xm_I) := rfl
theorem r_X11_readNext_25 : co_X11_readNext[25]? = some ((54, .ldc 237, 32, 0, 1064, 1, 0, 0, []) : xm_I) := rfl
theorem r_X11_readNext_26 : co_X11_readNext[26]? = some ((56, .invokevirtual 142, 1561, 204, 2, 10, 0, 0, []) : xm_I) := rfl
theorem r_X11_readNext_27 : co_X11_readNext[27]? = some ((59, .ifCond .eq 7, 0, 0, 30, 0, 0, 0, []) : xm_I) := rfl
theorem r_X11_readNext_28 : co_X11_readNext[28]? = some ((62, .iconst 1, 0, 0, 0, 0, 1, 0, []) : xm_I) := rfl
theorem r_X11_readNext_29 : co_X11_readNext[29]? = some ((63, .goto 4, 0, 0, 31, 0, 0, 0, []) : xm_I) := rfl
theorem r_X11_readNext_30 : co_X11_readNext[30]? = some ((66, .iconst 0, 0, 0, 0, 0, 0, 0, []) : xm_I) := rfl
theorem r_X11_readNext_31 : co_X11_readNext[31]? = some ((67, .istore_n 1, 0, 0, 0, 0, 0, 0, []) : xm_I) := rfl
theorem r_X11_readNext_32 : co_X11_readNext[32]? = some ((68, .iload_n 1, 0, 0, 0, 0, 0, 0, []) : xm_I) := rfl
theorem r_X11_readNext_33 : co_X11_readNext[33]? = some ((69, .ifCond .ne 8, 0, 0, 37, 0, 0, 0, []) : xm_I) := rfl
theorem r_X11_readNext_34 : co_X11_readNext[34]? = some ((72, .aload_n 0, 0, 0, 0, 0, 0, 0, []) : xm_I) := rfl
theorem r_X11_readNext_35 : co_X11_readNext[35]? = some ((73, .iconst 1, 0, 0, 0, 0, 1, 0, []) : xm_I) := rfl
theorem r_X11_readNext_36 : co_X11_readNext[36]? = some ((74, .invokevirtual 152, 1567, 205, 2, 10, 0, 0, []) : xm_I) := rfl
theorem r_X11_readNext_37 : co_X11_readNext[37]? = some ((77, .aload_n 0, 0, 0, 0, 0, 0, 0, []) : xm_I) := rfl
theorem r_X11_readNext_38 : co_X11_readNext[38]? = some ((78, .ldc 227, 27, 0, 1054, 1, 0, 0, []) : xm_I) := rfl
theorem r_X11_readNext_39 : co_X11_readNext[39]? = some ((80, .invokevirtual 142, 1561, 204, 2, 10, 0, 0, []) : xm_I) := rfl
theorem r_X11_readNext_40 : co_X11_readNext[40]? = some ((83, .ifCond .eq 15, 0, 0, 47, 0, 0, 0, []) : xm_I) := rfl
theorem r_X11_readNext_41 : co_X11_readNext[41]? = some ((86, .aload_n 0, 0, 0, 0, 0, 0, 0, []) : xm_I) := rfl
theorem r_X11_readNext_42 : co_X11_readNext[42]? = some ((87, .getfield 31, 1394, 10, 14, 2, 0, 0, []) : xm_I) := rfl
theorem r_X11_readNext_43 : co_X11_readNext[43]? = some ((90, .bipush 19, 0, 0, 0, 0, 19, 0, []) : xm_I) := rfl
theorem r_X11_readNext_44 : co_X11_readNext[44]? = some ((92, .iaload, 0, 0, 0, 0, 0, 0, []) : xm_I) := rfl
theorem r_X11_readNext_45 : co_X11_readNext[45]? = some ((93, .bipush 6, 0, 0, 0, 0, 6, 0, []) : xm_I) := rfl
theorem r_X11_readNext_46 : co_X11_readNext[46]? = some ((95, .if_icmp .eq 44, 0, 0, 67, 0, 0, 0, []) : xm_I) := rfl
theorem r_X11_readNext_47 : co_X11_readNext[47]? = some ((98, .aload_n 0, 0, 0, 0, 0, 0, 0, []) : xm_I) := rfl
theorem r_X11_readNext_48 : co_X11_readNext[48]? = some ((99, .ldc 235, 31, 0, 1062, 1, 0, 0, []) : xm_I) := rfl
theorem r_X11_readNext_49 : co_X11_readNext[49]? = some ((101, .invokevirtual 142, 1561, 204, 2, 10, 0, 0, []) : xm_I) := rfl
theorem r_X11_readNext_50 : co_X11_readNext[50]? = some ((104, .ifCond .eq 14, 0, 0, 57, 0, 0, 0, []) : xm_I) := rfl
theorem r_X11_readNext_51 : co_X11_readNext[51]? = some ((107, .aload_n 0, 0, 0, 0, 0, 0, 0, []) : xm_I) := rfl
theorem r_X11_readNext_52 : co_X11_readNext[52]? = some ((108, .getfield 31, 1394, 10, 14, 2, 0, 0, []) : xm_I) := rfl
theorem r_X11_readNext_53 : co_X11_readNext[53]? = some ((111, .bipush 20, 0, 0, 0, 0, 20, 0, []) : xm_I) := rfl
theorem r_X11_readNext_54 : co_X11_readNext[54]? = some ((113, .iaload, 0, 0, 0, 0, 0, 0, []) : xm_I) := rfl
theorem r_X11_readNext_55 : co_X11_readNext[55]? = some ((114, .iconst 4, 0, 0, 0, 0, 4, 0, []) : xm_I) := rfl
theorem r_X11_readNext_56 : co_X11_readNext[56]? = some ((115, .if_icmp .eq 24, 0, 0, 67, 0, 0, 0, []) : xm_I) := rfl
theorem r_X11_readNext_57 : co_X11_readNext[57]? = some ((118, .aload_n 0, 0, 0, 0, 0, 0, 0, []) : xm_I) := rfl
theorem r_X11_readNext_58 : co_X11_readNext[58]? = some ((119, .ldc 237, 32, 0, 1064, 1, 0, 0, []) : xm_I) := rfl
theorem r_X11_readNext_59 : co_X11_readNext[59]? = some ((121, .invokevirtual 142, 1561, 204, 2, 10, 0, 0, []) : xm_I) := rfl
theorem r_X11_readNext_60 : co_X11_readNext[60]? = some ((124, .ifCond .eq 20, 0, 0, 70, 0, 0, 0, []) : xm_I) := rfl
theorem r_X11_readNext_61 : co_X11_readNext[61]? = some ((127, .aload_n 0, 0, 0, 0, 0, 0, 0, []) : xm_I) := rfl
theorem r_X11_readNext_62 : co_X11_readNext[62]? = some ((128, .getfield 31, 1394, 10, 14, 2, 0, 0, []) : xm_I) := rfl
theorem r_X11_readNext_63 : co_X11_readNext[63]? = some ((131, .bipush 21, 0, 0, 0, 0, 21, 0, []) : xm_I) := rfl
theorem r_X11_readNext_64 : co_X11_readNext[64]? = some ((133, .iaload, 0, 0, 0, 0, 0, 0, []) : xm_I) := rfl
theorem r_X11_readNext_65 : co_X11_readNext[65]? = some ((134, .bipush 6, 0, 0, 0, 0, 6, 0, []) : xm_I) := rfl
theorem r_X11_readNext_66 : co_X11_readNext[66]? = some ((136, .if_icmp .ne 8, 0, 0, 70, 0, 0, 0, []) : xm_I) := rfl
theorem r_X11_readNext_67 : co_X11_readNext[67]? = some ((139, .aload_n 0, 0, 0, 0, 0, 0, 0, []) : xm_I) := rfl
theorem r_X11_readNext_68 : co_X11_readNext[68]? = some ((140, .iconst 3, 0, 0, 0, 0, 3, 0, []) : xm_I) := rfl
theorem r_X11_readNext_69 : co_X11_readNext[69]? = some ((141, .invokevirtual 152, 1567, 205, 2, 10, 0, 0, []) : xm_I) := rfl
theorem r_X11_readNext_70 : co_X11_readNext[70]? = some ((144, .aload_n 0, 0, 0, 0, 0, 0, 0, []) : xm_I) := rfl
theorem r_X11_readNext_71 : co_X11_readNext[71]? = some ((145, .invokevirtual 128, 1540, 199, 1, 10, 0, 0, []) : xm_I) := rfl
theorem r_X11_readNext_72 : co_X11_readNext[72]? = some ((148, .ifCond .ne 4, 0, 0, 74, 0, 0, 0, []) : xm_I) := rfl
theorem r_X11_readNext_73 : co_X11_readNext[73]? = some ((151, .return_, 0, 0, 0, 0, 0, 0, []) : xm_I) := rfl
theorem r_X11_readNext_74 : co_X11_readNext[74]? = some ((152, .aload_n 0, 0, 0, 0, 0, 0, 0, []) : xm_I) := rfl
theorem r_X11_readNext_75 : co_X11_readNext[75]? = some ((153, .invokevirtual 225, 1588, 209, 1, 10, 0, 0, []) : xm_I) := rfl
theorem r_X11_readNext_76 : co_X11_readNext[76]? = some ((156, .istore_n 2, 0, 0, 0, 0, 0, 0, []) : xm_I) := rfl
theorem r_X11_readNext_77 : co_X11_readNext[77]? = some ((157, .iload_n 2, 0, 0, 0, 0, 0, 0, []) : xm_I) := rfl
theorem r_X11_readNext_78 : co_X11_readNext[78]? = some ((158, .iconst (-1), 0, 0, 0, 0, (-1), 0, []) : xm_I) := rfl
theorem r_X11_readNext_79 : co_X11_readNext[79]? = some ((159, .if_icmp .eq 36, 0, 0, 99, 0, 0, 0, []) : xm_I) := rfl
theorem r_X11_readNext_80 : co_X11_readNext[80]? = some ((162, .aload_n 0, 0, 0, 0, 0, 0, 0, []) : xm_I) := rfl
theorem r_X11_readNext_81 : co_X11_readNext[81]? = some ((163, .invokevirtual 146, 1526, 197, 1, 10, 0, 0, []) : xm_I) := rfl
theorem r_X11_readNext_82 : co_X11_readNext[82]? = some ((166, .aload_n 0, 0, 0, 0, 0, 0, 0, []) : xm_I) := rfl
theorem r_X11_readNext_83 : co_X11_readNext[83]? = some ((167, .ldc 239, 33, 0, 1066, 1, 0, 0, []) : xm_I) := rfl
theorem r_X11_readNext_84 : co_X11_readNext[84]? = some ((169, .iconst 1, 0, 0, 0, 0, 1, 0, []) : xm_I) := rfl
theorem r_X11_readNext_85 : co_X11_readNext[85]? = some ((170, .bipush 99, 0, 0, 0, 0, 99, 0, []) : xm_I) := rfl
theorem r_X11_readNext_86 : co_X11_readNext[86]? = some ((172, .invokevirtual 167, 1572, 206, 4, 10, 0, 0, []) : xm_I) := rfl
theorem r_X11_readNext_87 : co_X11_readNext[87]? = some ((175, .istore_n 3, 0, 0, 0, 0, 0, 0, []) : xm_I) := rfl
theorem r_X11_readNext_88 : co_X11_readNext[88]? = some ((176, .aload_n 0, 0, 0, 0, 0, 0, 0, []) : xm_I) := rfl
theorem r_X11_readNext_89 : co_X11_readNext[89]? = some ((177, .invokevirtual 128, 1540, 199, 1, 10, 0, 0, []) : xm_I) := rfl
theorem r_X11_readNext_90 : co_X11_readNext[90]? = some ((180, .ifCond .eq 12, 0, 0, 98, 0, 0, 0, []) : xm_I) := rfl
theorem r_X11_readNext_91 : co_X11_readNext[91]? = some ((183, .aload_n 0, 0, 0, 0, 0, 0, 0, []) : xm_I) := rfl
theorem r_X11_readNext_92 : co_X11_readNext[92]? = some ((184, .getfield 31, 1394, 10, 14, 2, 0, 0, []) : xm_I) := rfl
theorem r_X11_readNext_93 : co_X11_readNext[93]? = some ((187, .iconst 5, 0, 0, 0, 0, 5, 0, []) : xm_I) := rfl
theorem r_X11_readNext_94 : co_X11_readNext[94]? = some ((188, .iload_n 2, 0, 0, 0, 0, 0, 0, []) : xm_I) := rfl
theorem r_X11_readNext_95 : co_X11_readNext[95]? = some ((189, .iadd, 0, 0, 0, 0, 0, 0, []) : xm_I) := rfl
theorem r_X11_readNext_96 : co_X11_readNext[96]? = some ((190, .iload_n 3, 0, 0, 0, 0, 0, 0, []) : xm_I) := rfl
theorem r_X11_readNext_97 : co_X11_readNext[97]? = some ((191, .iastore, 0, 0, 0, 0, 0, 0, []) : xm_I) := rfl
theorem r_X11_readNext_98 : co_X11_readNext[98]? = some ((192, .goto 219, 0, 0, 218, 0, 0, 0, []) : xm_I) := rfl
theorem r_X11_readNext_99 : co_X11_readNext[99]? = some ((195, .aload_n 0, 0, 0, 0, 0, 0, 0, []) : xm_I) := rfl
theorem r_X11_readNext_100 : co_X11_readNext[100]? = some ((196, .ldc 227, 27, 0, 1054, 1, 0, 0, []) : xm_I) := rfl
theorem r_X11_readNext_101 : co_X11_readNext[101]? = some ((198, .invokevirtual 149, 1557, 203, 2, 10, 0, 0, []) : xm_I) := rfl
theorem r_X11_readNext_102 : co_X11_readNext[102]? = some ((201, .ifCond .eq 10, 0, 0, 106, 0, 0, 0, []) : xm_I) := rfl
theorem r_X11_readNext_103 : co_X11_readNext[103]? = some ((204, .aload_n 0, 0, 0, 0, 0, 0, 0, []) : xm_I) := rfl
theorem r_X11_readNext_104 : co_X11_readNext[104]? = some ((205, .invokevirtual 240, 1605, 210, 1, 10, 0, 0, []) : xm_I) := rfl
theorem r_X11_readNext_105 : co_X11_readNext[105]? = some ((208, .goto 203, 0, 0, 218, 0, 0, 0, []) : xm_I) := rfl
theorem r_X11_readNext_106 : co_X11_readNext[106]? = some ((211, .aload_n 0, 0, 0, 0, 0, 0, 0, []) : xm_I) := rfl
theorem r_X11_readNext_107 : co_X11_readNext[107]? = some ((212, .ldc 229, 28, 0, 1056, 1, 0, 0, []) : xm_I) := rfl
theorem r_X11_readNext_108 : co_X11_readNext[108]? = some ((214, .invokevirtual 149, 1557, 203, 2, 10, 0, 0, []) : xm_I) := rfl
theorem r_X11_readNext_109 : co_X11_readNext[109]? = some ((217, .ifCond .eq 38, 0, 0, 129, 0, 0, 0, []) : xm_I) := rfl
theorem r_X11_readNext_110 : co_X11_readNext[110]? = some ((220, .aload_n 0, 0, 0, 0, 0, 0, 0, []) : xm_I) := rfl
theorem r_X11_readNext_111 : co_X11_readNext[111]? = some ((221, .getfield 31, 1394, 10, 14, 2, 0, 0, []) : xm_I) := rfl
theorem r_X11_readNext_112 : co_X11_readNext[112]? = some ((224, .bipush 11, 0, 0, 0, 0, 11, 0, []) : xm_I) := rfl
theorem r_X11_readNext_113 : co_X11_readNext[113]? = some ((226, .aload_n 0, 0, 0, 0, 0, 0, 0, []) : xm_I) := rfl
theorem r_X11_readNext_114 : co_X11_readNext[114]? = some ((227, .ldc 199, 34, 0, 1068, 1, 0, 0, []) : xm_I) := rfl
theorem r_X11_readNext_115 : co_X11_readNext[115]? = some ((229, .iconst 0, 0, 0, 0, 0, 0, 0, []) : xm_I) := rfl
theorem r_X11_readNext_116 : co_X11_readNext[116]? = some ((230, .bipush 50, 0, 0, 0, 0, 50, 0, []) : xm_I) := rfl
theorem r_X11_readNext_117 : co_X11_readNext[117]? = some ((232, .invokevirtual 167, 1572, 206, 4, 10, 0, 0, []) : xm_I) := rfl
theorem r_X11_readNext_118 : co_X11_readNext[118]? = some ((235, .iastore, 0, 0, 0, 0, 0, 0, []) : xm_I) := rfl
theorem r_X11_readNext_119 : co_X11_readNext[119]? = some ((236, .aload_n 0, 0, 0, 0, 0, 0, 0, []) : xm_I) := rfl
theorem r_X11_readNext_120 : co_X11_readNext[120]? = some ((237, .getfield 31, 1394, 10, 14, 2, 0, 0, []) : xm_I) := rfl
theorem r_X11_readNext_121 : co_X11_readNext[121]? = some ((240, .bipush 12, 0, 0, 0, 0, 12, 0, []) : xm_I) := rfl
theorem r_X11_readNext_122 : co_X11_readNext[122]? = some ((242, .aload_n 0, 0, 0, 0, 0, 0, 0, []) : xm_I) := rfl
theorem r_X11_readNext_123 : co_X11_readNext[123]? = some ((243, .ldc 204, 39, 0, 1078, 1, 0, 0, []) : xm_I) := rfl
theorem r_X11_readNext_124 : co_X11_readNext[124]? = some ((245, .iconst 0, 0, 0, 0, 0, 0, 0, []) : xm_I) := rfl
theorem r_X11_readNext_125 : co_X11_readNext[125]? = some ((246, .bipush 50, 0, 0, 0, 0, 50, 0, []) : xm_I) := rfl
theorem r_X11_readNext_126 : co_X11_readNext[126]? = some ((248, .invokevirtual 167, 1572, 206, 4, 10, 0, 0, []) : xm_I) := rfl
theorem r_X11_readNext_127 : co_X11_readNext[127]? = some ((251, .iastore, 0, 0, 0, 0, 0, 0, []) : xm_I) := rfl
theorem r_X11_readNext_128 : co_X11_readNext[128]? = some ((252, .goto 159, 0, 0, 218, 0, 0, 0, []) : xm_I) := rfl
theorem r_X11_readNext_129 : co_X11_readNext[129]? = some ((255, .aload_n 0, 0, 0, 0, 0, 0, 0, []) : xm_I) := rfl
theorem r_X11_readNext_130 : co_X11_readNext[130]? = some ((256, .ldc 231, 29, 0, 1058, 1, 0, 0, []) : xm_I) := rfl
theorem r_X11_readNext_131 : co_X11_readNext[131]? = some ((258, .invokevirtual 149, 1557, 203, 2, 10, 0, 0, []) : xm_I) := rfl
theorem r_X11_readNext_132 : co_X11_readNext[132]? = some ((261, .ifCond .eq 10, 0, 0, 136, 0, 0, 0, []) : xm_I) := rfl
theorem r_X11_readNext_133 : co_X11_readNext[133]? = some ((264, .aload_n 0, 0, 0, 0, 0, 0, 0, []) : xm_I) := rfl
theorem r_X11_readNext_134 : co_X11_readNext[134]? = some ((265, .invokevirtual 243, 1619, 212, 1, 10, 0, 0, []) : xm_I) := rfl
theorem r_X11_readNext_135 : co_X11_readNext[135]? = some ((268, .goto 143, 0, 0, 218, 0, 0, 0, []) : xm_I) := rfl
theorem r_X11_readNext_136 : co_X11_readNext[136]? = some ((271, .aload_n 0, 0, 0, 0, 0, 0, 0, []) : xm_I) := rfl
theorem r_X11_readNext_137 : co_X11_readNext[137]? = some ((272, .ldc 233, 30, 0, 1060, 1, 0, 0, []) : xm_I) := rfl
theorem r_X11_readNext_138 : co_X11_readNext[138]? = some ((274, .invokevirtual 149, 1557, 203, 2, 10, 0, 0, []) : xm_I) := rfl
theorem r_X11_readNext_139 : co_X11_readNext[139]? = some ((277, .ifCond .eq 21, 0, 0, 149, 0, 0, 0, []) : xm_I) := rfl
theorem r_X11_readNext_140 : co_X11_readNext[140]? = some ((280, .aload_n 0, 0, 0, 0, 0, 0, 0, []) : xm_I) := rfl
theorem r_X11_readNext_141 : co_X11_readNext[141]? = some ((281, .getfield 31, 1394, 10, 14, 2, 0, 0, []) : xm_I) := rfl
theorem r_X11_readNext_142 : co_X11_readNext[142]? = some ((284, .bipush 18, 0, 0, 0, 0, 18, 0, []) : xm_I) := rfl
theorem r_X11_readNext_143 : co_X11_readNext[143]? = some ((286, .aload_n 0, 0, 0, 0, 0, 0, 0, []) : xm_I) := rfl
theorem r_X11_readNext_144 : co_X11_readNext[144]? = some ((287, .iconst 1, 0, 0, 0, 0, 1, 0, []) : xm_I) := rfl
theorem r_X11_readNext_145 : co_X11_readNext[145]? = some ((288, .sipush 999, 0, 0, 0, 0, 999, 0, []) : xm_I) := rfl
theorem r_X11_readNext_146 : co_X11_readNext[146]? = some ((291, .invokevirtual 160, 1576, 207, 3, 10, 0, 0, []) : xm_I) := rfl
theorem r_X11_readNext_147 : co_X11_readNext[147]? = some ((294, .iastore, 0, 0, 0, 0, 0, 0, []) : xm_I) := rfl
theorem r_X11_readNext_148 : co_X11_readNext[148]? = some ((295, .goto 116, 0, 0, 218, 0, 0, 0, []) : xm_I) := rfl
theorem r_X11_readNext_149 : co_X11_readNext[149]? = some ((298, .aload_n 0, 0, 0, 0, 0, 0, 0, []) : xm_I) := rfl
theorem r_X11_readNext_150 : co_X11_readNext[150]? = some ((299, .ldc 235, 31, 0, 1062, 1, 0, 0, []) : xm_I) := rfl
set_option maxRecDepth 100000 in
theorem r_X11_readNext_151 : co_X11_readNext[151]? = some ((301, .invokevirtual 149, 1557, 203, 2, 10, 0, 0, []) : xm_I) := rfl
set_option maxRecDepth 100000 in
theorem r_X11_readNext_152 : co_X11_readNext[152]? = some ((304, .ifCond .eq 70, 0, 0, 195, 0, 0, 0, []) : xm_I) := rfl
set_option maxRecDepth 100000 in
theorem r_X11_readNext_153 : co_X11_readNext[153]? = some ((307, .aload_n 0, 0, 0, 0, 0, 0, 0, []) : xm_I) := rfl
set_option maxRecDepth 100000 in
theorem r_X11_readNext_154 : co_X11_readNext[154]? = some ((308, .getfield 31, 1394, 10, 14, 2, 0, 0, []) : xm_I) := rfl
set_option maxRecDepth 100000 in
theorem r_X11_readNext_155 : co_X11_readNext[155]? = some ((311, .bipush 36, 0, 0, 0, 0, 36, 0, []) : xm_I) := rfl
set_option maxRecDepth 100000 in
theorem r_X11_readNext_156 : co_X11_readNext[156]? = some ((313, .iconst 2, 0, 0, 0, 0, 2, 0, []) : xm_I) := rfl
set_option maxRecDepth 100000 in
theorem r_X11_readNext_157 : co_X11_readNext[157]? = some ((314, .aload_n 0, 0, 0, 0, 0, 0, 0, []) : xm_I) := rfl
set_option maxRecDepth 100000 in
theorem r_X11_readNext_158 : co_X11_readNext[158]? = some ((315, .getfield 31, 1394, 10, 14, 2, 0, 0, []) : xm_I) := rfl
set_option maxRecDepth 100000 in
theorem r_X11_readNext_159 : co_X11_readNext[159]? = some ((318, .bipush 20, 0, 0, 0, 0, 20, 0, []) : xm_I) := rfl
set_option maxRecDepth 100000 in
theorem r_X11_readNext_160 : co_X11_readNext[160]? = some ((320, .iaload, 0, 0, 0, 0, 0, 0, []) : xm_I) := rfl
set_option maxRecDepth 100000 in
theorem r_X11_readNext_161 : co_X11_readNext[161]? = some ((321, .imul, 0, 0, 0, 0, 0, 0, []) : xm_I) := rfl
set_option maxRecDepth 100000 in
theorem r_X11_readNext_162 : co_X11_readNext[162]? = some ((322, .iadd, 0, 0, 0, 0, 0, 0, []) : xm_I) := rfl
set_option maxRecDepth 100000 in
theorem r_X11_readNext_163 : co_X11_readNext[163]? = some ((323, .aload_n 0, 0, 0, 0, 0, 0, 0, []) : xm_I) := rfl
set_option maxRecDepth 100000 in
theorem r_X11_readNext_164 : co_X11_readNext[164]? = some ((324, .iconst 1, 0, 0, 0, 0, 1, 0, []) : xm_I) := rfl
set_option maxRecDepth 100000 in
theorem r_X11_readNext_165 : co_X11_readNext[165]? = some ((325, .bipush 99, 0, 0, 0, 0, 99, 0, []) : xm_I) := rfl
set_option maxRecDepth 100000 in
theorem r_X11_readNext_166 : co_X11_readNext[166]? = some ((327, .invokevirtual 160, 1576, 207, 3, 10, 0, 0, []) : xm_I) := rfl
set_option maxRecDepth 100000 in
theorem r_X11_readNext_167 : co_X11_readNext[167]? = some ((330, .iastore, 0, 0, 0, 0, 0, 0, []) : xm_I) := rfl
set_option maxRecDepth 100000 in
theorem r_X11_readNext_168 : co_X11_readNext[168]? = some ((331, .aload_n 0, 0, 0, 0, 0, 0, 0, []) : xm_I) := rfl
set_option maxRecDepth 100000 in
theorem r_X11_readNext_169 : co_X11_readNext[169]? = some ((332, .getfield 31, 1394, 10, 14, 2, 0, 0, []) : xm_I) := rfl
set_option maxRecDepth 100000 in
theorem r_X11_readNext_170 : co_X11_readNext[170]? = some ((335, .bipush 36, 0, 0, 0, 0, 36, 0, []) : xm_I) := rfl
set_option maxRecDepth 100000 in
theorem r_X11_readNext_171 : co_X11_readNext[171]? = some ((337, .iconst 2, 0, 0, 0, 0, 2, 0, []) : xm_I) := rfl
set_option maxRecDepth 100000 in
theorem r_X11_readNext_172 : co_X11_readNext[172]? = some ((338, .aload_n 0, 0, 0, 0, 0, 0, 0, []) : xm_I) := rfl
set_option maxRecDepth 100000 in
theorem r_X11_readNext_173 : co_X11_readNext[173]? = some ((339, .getfield 31, 1394, 10, 14, 2, 0, 0, []) : xm_I) := rfl
set_option maxRecDepth 100000 in
theorem r_X11_readNext_174 : co_X11_readNext[174]? = some ((342, .bipush 20, 0, 0, 0, 0, 20, 0, []) : xm_I) := rfl
set_option maxRecDepth 100000 in
theorem r_X11_readNext_175 : co_X11_readNext[175]? = some ((344, .iaload, 0, 0, 0, 0, 0, 0, []) : xm_I) := rfl
set_option maxRecDepth 100000 in
theorem r_X11_readNext_176 : co_X11_readNext[176]? = some ((345, .imul, 0, 0, 0, 0, 0, 0, []) : xm_I) := rfl
set_option maxRecDepth 100000 in
theorem r_X11_readNext_177 : co_X11_readNext[177]? = some ((346, .iadd, 0, 0, 0, 0, 0, 0, []) : xm_I) := rfl
set_option maxRecDepth 100000 in
theorem r_X11_readNext_178 : co_X11_readNext[178]? = some ((347, .iconst 1, 0, 0, 0, 0, 1, 0, []) : xm_I) := rfl
set_option maxRecDepth 100000 in
theorem r_X11_readNext_179 : co_X11_readNext[179]? = some ((348, .iadd, 0, 0, 0, 0, 0, 0, []) : xm_I) := rfl
set_option maxRecDepth 100000 in
theorem r_X11_readNext_180 : co_X11_readNext[180]? = some ((349, .aload_n 0, 0, 0, 0, 0, 0, 0, []) : xm_I) := rfl
set_option maxRecDepth 100000 in
theorem r_X11_readNext_181 : co_X11_readNext[181]? = some ((350, .ldc 246, 47, 0, 1094, 1, 0, 0, []) : xm_I) := rfl
set_option maxRecDepth 100000 in
theorem r_X11_readNext_182 : co_X11_readNext[182]? = some ((352, .iconst 0, 0, 0, 0, 0, 0, 0, []) : xm_I) := rfl
set_option maxRecDepth 100000 in
theorem r_X11_readNext_183 : co_X11_readNext[183]? = some ((353, .sipush 999, 0, 0, 0, 0, 999, 0, []) : xm_I) := rfl
set_option maxRecDepth 100000 in
theorem r_X11_readNext_184 : co_X11_readNext[184]? = some ((356, .invokevirtual 167, 1572, 206, 4, 10, 0, 0, []) : xm_I) := rfl
set_option maxRecDepth 100000 in
theorem r_X11_readNext_185 : co_X11_readNext[185]? = some ((359, .iastore, 0, 0, 0, 0, 0, 0, []) : xm_I) := rfl
set_option maxRecDepth 100000 in
theorem r_X11_readNext_186 : co_X11_readNext[186]? = some ((360, .aload_n 0, 0, 0, 0, 0, 0, 0, []) : xm_I) := rfl
set_option maxRecDepth 100000 in
theorem r_X11_readNext_187 : co_X11_readNext[187]? = some ((361, .getfield 31, 1394, 10, 14, 2, 0, 0, []) : xm_I) := rfl
set_option maxRecDepth 100000 in
theorem r_X11_readNext_188 : co_X11_readNext[188]? = some ((364, .bipush 20, 0, 0, 0, 0, 20, 0, []) : xm_I) := rfl
set_option maxRecDepth 100000 in
theorem r_X11_readNext_189 : co_X11_readNext[189]? = some ((366, .dup2, 0, 0, 0, 0, 0, 0, []) : xm_I) := rfl
set_option maxRecDepth 100000 in
theorem r_X11_readNext_190 : co_X11_readNext[190]? = some ((367, .iaload, 0, 0, 0, 0, 0, 0, []) : xm_I) := rfl
set_option maxRecDepth 100000 in
theorem r_X11_readNext_191 : co_X11_readNext[191]? = some ((368, .iconst 1, 0, 0, 0, 0, 1, 0, []) : xm_I) := rfl
set_option maxRecDepth 100000 in
theorem r_X11_readNext_192 : co_X11_readNext[192]? = some ((369, .iadd, 0, 0, 0, 0, 0, 0, []) : xm_I) := rfl
set_option maxRecDepth 100000 in
theorem r_X11_readNext_193 : co_X11_readNext[193]? = some ((370, .iastore, 0, 0, 0, 0, 0, 0, []) : xm_I) := rfl
set_option maxRecDepth 100000 in
theorem r_X11_readNext_194 : co_X11_readNext[194]? = some ((371, .goto 40, 0, 0, 218, 0, 0, 0, []) : xm_I) := rfl
set_option maxRecDepth 100000 in
theorem r_X11_readNext_195 : co_X11_readNext[195]? = some ((374, .aload_n 0, 0, 0, 0, 0, 0, 0, []) : xm_I) := rfl
set_option maxRecDepth 100000 in
theorem r_X11_readNext_196 : co_X11_readNext[196]? = some ((375, .invokevirtual 146, 1526, 197, 1, 10, 0, 0, []) : xm_I) := rfl
set_option maxRecDepth 100000 in
theorem r_X11_readNext_197 : co_X11_readNext[197]? = some ((378, .aload_n 0, 0, 0, 0, 0, 0, 0, []) : xm_I) := rfl
set_option maxRecDepth 100000 in
theorem r_X11_readNext_198 : co_X11_readNext[198]? = some ((379, .getfield 31, 1394, 10, 14, 2, 0, 0, []) : xm_I) := rfl
set_option maxRecDepth 100000 in
theorem r_X11_readNext_199 : co_X11_readNext[199]? = some ((382, .bipush 44, 0, 0, 0, 0, 44, 0, []) : xm_I) := rfl
set_option maxRecDepth 100000 in
theorem r_X11_readNext_200 : co_X11_readNext[200]? = some ((384, .aload_n 0, 0, 0, 0, 0, 0, 0, []) : xm_I) := rfl
set_option maxRecDepth 100000 in
theorem r_X11_readNext_201 : co_X11_readNext[201]? = some ((385, .getfield 31, 1394, 10, 14, 2, 0, 0, []) : xm_I) := rfl
set_option maxRecDepth 100000 in
theorem r_X11_readNext_202 : co_X11_readNext[202]? = some ((388, .bipush 21, 0, 0, 0, 0, 21, 0, []) : xm_I) := rfl
set_option maxRecDepth 100000 in
theorem r_X11_readNext_203 : co_X11_readNext[203]? = some ((390, .iaload, 0, 0, 0, 0, 0, 0, []) : xm_I) := rfl
set_option maxRecDepth 100000 in
theorem r_X11_readNext_204 : co_X11_readNext[204]? = some ((391, .iadd, 0, 0, 0, 0, 0, 0, []) : xm_I) := rfl
set_option maxRecDepth 100000 in
theorem r_X11_readNext_205 : co_X11_readNext[205]? = some ((392, .aload_n 0, 0, 0, 0, 0, 0, 0, []) : xm_I) := rfl
set_option maxRecDepth 100000 in
theorem r_X11_readNext_206 : co_X11_readNext[206]? = some ((393, .iconst 1, 0, 0, 0, 0, 1, 0, []) : xm_I) := rfl
set_option maxRecDepth 100000 in
theorem r_X11_readNext_207 : co_X11_readNext[207]? = some ((394, .bipush 60, 0, 0, 0, 0, 60, 0, []) : xm_I) := rfl
set_option maxRecDepth 100000 in
theorem r_X11_readNext_208 : co_X11_readNext[208]? = some ((396, .invokevirtual 160, 1576, 207, 3, 10, 0, 0, []) : xm_I) := rfl
set_option maxRecDepth 100000 in
theorem r_X11_readNext_209 : co_X11_readNext[209]? = some ((399, .iastore, 0, 0, 0, 0, 0, 0, []) : xm_I) := rfl
set_option maxRecDepth 100000 in
theorem r_X11_readNext_210 : co_X11_readNext[210]? = some ((400, .aload_n 0, 0, 0, 0, 0, 0, 0, []) : xm_I) := rfl
set_option maxRecDepth 100000 in
theorem r_X11_readNext_211 : co_X11_readNext[211]? = some ((401, .getfield 31, 1394, 10, 14, 2, 0, 0, []) : xm_I) := rfl
set_option maxRecDepth 100000 in
theorem r_X11_readNext_212 : co_X11_readNext[212]? = some ((404, .bipush 21, 0, 0, 0, 0, 21, 0, []) : xm_I) := rfl
set_option maxRecDepth 100000 in
theorem r_X11_readNext_213 : co_X11_readNext[213]? = some ((406, .dup2, 0, 0, 0, 0, 0, 0, []) : xm_I) := rfl
set_option maxRecDepth 100000 in
theorem r_X11_readNext_214 : co_X11_readNext[214]? = some ((407, .iaload, 0, 0, 0, 0, 0, 0, []) : xm_I) := rfl
set_option maxRecDepth 100000 in
theorem r_X11_readNext_215 : co_X11_readNext[215]? = some ((408, .iconst 1, 0, 0, 0, 0, 1, 0, []) : xm_I) := rfl
set_option maxRecDepth 100000 in
theorem r_X11_readNext_216 : co_X11_readNext[216]? = some ((409, .iadd, 0, 0, 0, 0, 0, 0, []) : xm_I) := rfl
set_option maxRecDepth 100000 in
theorem r_X11_readNext_217 : co_X11_readNext[217]? = some ((410, .iastore, 0, 0, 0, 0, 0, 0, []) : xm_I) := rfl
set_option maxRecDepth 100000 in
theorem r_X11_readNext_218 : co_X11_readNext[218]? = some ((411, .return_, 0, 0, 0, 0, 0, 0, []) : xm_I) := rfl
theorem p_X11_readNext_0_0 {X : xm_X} {P : List xm_M} {d : Nat} {h : xm_H} {l0 : Nat} {h0 : xm_H} {r0 : Int32} {h1 : xm_H} {r1 : Int32} {h2 : xm_H} {r2 : Int32} {h3 : xm_H} {r3 : Int32} {h4 : xm_H} {r4 : Int32} {h5 : xm_H} {r5 : Int32} {h6 : xm_H} {r6 : Int32} {ro : Option Value} {ho : xm_H} (q0 : xm_V X P d 209 [.ref l0] h (some (.int r0)) h0) (q1 : X.1[l0]? = some (.inr 10)) (q2 : r0 = (-1 : Int32)) (q3 : xm_V X P d 204 [.ref l0, .ref 1054] h0 (some (.int r1)) h1) (q4 : r1 = (0 : Int32)) (q5 : xm_V X P d 204 [.ref l0, .ref 1056] h1 (some (.int r2)) h2) (q6 : r2 = (0 : Int32)) (q7 : xm_V X P d 204 [.ref l0, .ref 1058] h2 (some (.int r3)) h3) (q8 : r3 = (0 : Int32)) (q9 : xm_V X P d 204 [.ref l0, .ref 1060] h3 (some (.int r4)) h4) (q10 : r4 = (0 : Int32)) (q11 : xm_V X P d 204 [.ref l0, .ref 1062] h4 (some (.int r5)) h5) (q12 : r5 = (0 : Int32)) (q13 : xm_V X P d 204 [.ref l0, .ref 1064] h5 (some (.int r6)) h6) (q14 : r6 = (0 : Int32)) (K : xm_E X P d co_X11_readNext 31 [some (.ref l0), none, none, none] [.int (0 : Int32)] h6 ro ho) : xm_E X P d co_X11_readNext 0 [some (.ref l0), none, none, none] [] h ro ho := by
  refine xm_E_s r_X11_readNext_0 rfl rfl ?_
  refine xm_E_cv [.ref l0] [] r_X11_readNext_1 rfl rfl (Nat.le_of_ble_eq_true rfl) (xm_rc q1 (by decide)) rfl q0 ?_
  refine xm_E_s r_X11_readNext_2 rfl rfl ?_
  refine xm_E_s r_X11_readNext_3 rfl rfl ?_
  refine xm_E_t q2 ?_
  refine xm_E_s r_X11_readNext_4 rfl rfl ?_
  refine xm_E_s r_X11_readNext_5 rfl rfl ?_
  refine xm_E_cv [.ref l0, .ref 1054] [] r_X11_readNext_6 rfl rfl (Nat.le_of_ble_eq_true rfl) (xm_rc q1 (by decide)) rfl q3 ?_
  refine xm_E_s r_X11_readNext_7 rfl rfl ?_
  refine xm_E_t q4 ?_
  refine xm_E_s r_X11_readNext_8 rfl rfl ?_
  refine xm_E_s r_X11_readNext_9 rfl rfl ?_
  refine xm_E_cv [.ref l0, .ref 1056] [] r_X11_readNext_10 rfl rfl (Nat.le_of_ble_eq_true rfl) (xm_rc q1 (by decide)) rfl q5 ?_
  refine xm_E_s r_X11_readNext_11 rfl rfl ?_
  refine xm_E_t q6 ?_
  refine xm_E_s r_X11_readNext_12 rfl rfl ?_
  refine xm_E_s r_X11_readNext_13 rfl rfl ?_
  refine xm_E_cv [.ref l0, .ref 1058] [] r_X11_readNext_14 rfl rfl (Nat.le_of_ble_eq_true rfl) (xm_rc q1 (by decide)) rfl q7 ?_
  refine xm_E_s r_X11_readNext_15 rfl rfl ?_
  refine xm_E_t q8 ?_
  refine xm_E_s r_X11_readNext_16 rfl rfl ?_
  refine xm_E_s r_X11_readNext_17 rfl rfl ?_
  refine xm_E_cv [.ref l0, .ref 1060] [] r_X11_readNext_18 rfl rfl (Nat.le_of_ble_eq_true rfl) (xm_rc q1 (by decide)) rfl q9 ?_
  refine xm_E_s r_X11_readNext_19 rfl rfl ?_
  refine xm_E_t q10 ?_
  refine xm_E_s r_X11_readNext_20 rfl rfl ?_
  refine xm_E_s r_X11_readNext_21 rfl rfl ?_
  refine xm_E_cv [.ref l0, .ref 1062] [] r_X11_readNext_22 rfl rfl (Nat.le_of_ble_eq_true rfl) (xm_rc q1 (by decide)) rfl q11 ?_
  refine xm_E_s r_X11_readNext_23 rfl rfl ?_
  refine xm_E_t q12 ?_
  refine xm_E_s r_X11_readNext_24 rfl rfl ?_
  refine xm_E_s r_X11_readNext_25 rfl rfl ?_
  refine xm_E_cv [.ref l0, .ref 1064] [] r_X11_readNext_26 rfl rfl (Nat.le_of_ble_eq_true rfl) (xm_rc q1 (by decide)) rfl q13 ?_
  refine xm_E_s r_X11_readNext_27 rfl rfl ?_
  refine xm_E_t q14 ?_
  refine xm_E_s r_X11_readNext_30 rfl rfl ?_
  exact K
theorem p_X11_readNext_0_1 {X : xm_X} {P : List xm_M} {d : Nat} {h : xm_H} {l0 : Nat} {h0 : xm_H} {r0 : Int32} {h1 : xm_H} {r1 : Int32} {h2 : xm_H} {r2 : Int32} {h3 : xm_H} {r3 : Int32} {h4 : xm_H} {r4 : Int32} {h5 : xm_H} {r5 : Int32} {h6 : xm_H} {r6 : Int32} {ro : Option Value} {ho : xm_H} (q0 : xm_V X P d 209 [.ref l0] h (some (.int r0)) h0) (q1 : X.1[l0]? = some (.inr 10)) (q2 : r0 = (-1 : Int32)) (q3 : xm_V X P d 204 [.ref l0, .ref 1054] h0 (some (.int r1)) h1) (q4 : r1 = (0 : Int32)) (q5 : xm_V X P d 204 [.ref l0, .ref 1056] h1 (some (.int r2)) h2) (q6 : r2 = (0 : Int32)) (q7 : xm_V X P d 204 [.ref l0, .ref 1058] h2 (some (.int r3)) h3) (q8 : r3 = (0 : Int32)) (q9 : xm_V X P d 204 [.ref l0, .ref 1060] h3 (some (.int r4)) h4) (q10 : r4 = (0 : Int32)) (q11 : xm_V X P d 204 [.ref l0, .ref 1062] h4 (some (.int r5)) h5) (q12 : r5 = (0 : Int32)) (q13 : xm_V X P d 204 [.ref l0, .ref 1064] h5 (some (.int r6)) h6) (q14 : ¬ (r6 = (0 : Int32))) (K : xm_E X P d co_X11_readNext 31 [some (.ref l0), none, none, none] [.int (1 : Int32)] h6 ro ho) : xm_E X P d co_X11_readNext 0 [some (.ref l0), none, none, none] [] h ro ho := by
  refine xm_E_s r_X11_readNext_0 rfl rfl ?_
  refine xm_E_cv [.ref l0] [] r_X11_readNext_1 rfl rfl (Nat.le_of_ble_eq_true rfl) (xm_rc q1 (by decide)) rfl q0 ?_
  refine xm_E_s r_X11_readNext_2 rfl rfl ?_
  refine xm_E_s r_X11_readNext_3 rfl rfl ?_
  refine xm_E_t q2 ?_
  refine xm_E_s r_X11_readNext_4 rfl rfl ?_
  refine xm_E_s r_X11_readNext_5 rfl rfl ?_
  refine xm_E_cv [.ref l0, .ref 1054] [] r_X11_readNext_6 rfl rfl (Nat.le_of_ble_eq_true rfl) (xm_rc q1 (by decide)) rfl q3 ?_
  refine xm_E_s r_X11_readNext_7 rfl rfl ?_
  refine xm_E_t q4 ?_
  refine xm_E_s r_X11_readNext_8 rfl rfl ?_
  refine xm_E_s r_X11_readNext_9 rfl rfl ?_
  refine xm_E_cv [.ref l0, .ref 1056] [] r_X11_readNext_10 rfl rfl (Nat.le_of_ble_eq_true rfl) (xm_rc q1 (by decide)) rfl q5 ?_
  refine xm_E_s r_X11_readNext_11 rfl rfl ?_
  refine xm_E_t q6 ?_
  refine xm_E_s r_X11_readNext_12 rfl rfl ?_
  refine xm_E_s r_X11_readNext_13 rfl rfl ?_
  refine xm_E_cv [.ref l0, .ref 1058] [] r_X11_readNext_14 rfl rfl (Nat.le_of_ble_eq_true rfl) (xm_rc q1 (by decide)) rfl q7 ?_
  refine xm_E_s r_X11_readNext_15 rfl rfl ?_
  refine xm_E_t q8 ?_
  refine xm_E_s r_X11_readNext_16 rfl rfl ?_
  refine xm_E_s r_X11_readNext_17 rfl rfl ?_
  refine xm_E_cv [.ref l0, .ref 1060] [] r_X11_readNext_18 rfl rfl (Nat.le_of_ble_eq_true rfl) (xm_rc q1 (by decide)) rfl q9 ?_
  refine xm_E_s r_X11_readNext_19 rfl rfl ?_
  refine xm_E_t q10 ?_
  refine xm_E_s r_X11_readNext_20 rfl rfl ?_
  refine xm_E_s r_X11_readNext_21 rfl rfl ?_
  refine xm_E_cv [.ref l0, .ref 1062] [] r_X11_readNext_22 rfl rfl (Nat.le_of_ble_eq_true rfl) (xm_rc q1 (by decide)) rfl q11 ?_
  refine xm_E_s r_X11_readNext_23 rfl rfl ?_
  refine xm_E_t q12 ?_
  refine xm_E_s r_X11_readNext_24 rfl rfl ?_
  refine xm_E_s r_X11_readNext_25 rfl rfl ?_
  refine xm_E_cv [.ref l0, .ref 1064] [] r_X11_readNext_26 rfl rfl (Nat.le_of_ble_eq_true rfl) (xm_rc q1 (by decide)) rfl q13 ?_
  refine xm_E_s r_X11_readNext_27 rfl rfl ?_
  refine xm_E_f q14 ?_
  refine xm_E_s r_X11_readNext_28 rfl rfl ?_
  refine xm_E_s r_X11_readNext_29 rfl rfl ?_
  exact K
theorem p_X11_readNext_0_2 {X : xm_X} {P : List xm_M} {d : Nat} {h : xm_H} {l0 : Nat} {h0 : xm_H} {r0 : Int32} {h1 : xm_H} {r1 : Int32} {h2 : xm_H} {r2 : Int32} {h3 : xm_H} {r3 : Int32} {h4 : xm_H} {r4 : Int32} {h5 : xm_H} {r5 : Int32} {ro : Option Value} {ho : xm_H} (q0 : xm_V X P d 209 [.ref l0] h (some (.int r0)) h0) (q1 : X.1[l0]? = some (.inr 10)) (q2 : r0 = (-1 : Int32)) (q3 : xm_V X P d 204 [.ref l0, .ref 1054] h0 (some (.int r1)) h1) (q4 : r1 = (0 : Int32)) (q5 : xm_V X P d 204 [.ref l0, .ref 1056] h1 (some (.int r2)) h2) (q6 : r2 = (0 : Int32)) (q7 : xm_V X P d 204 [.ref l0, .ref 1058] h2 (some (.int r3)) h3) (q8 : r3 = (0 : Int32)) (q9 : xm_V X P d 204 [.ref l0, .ref 1060] h3 (some (.int r4)) h4) (q10 : r4 = (0 : Int32)) (q11 : xm_V X P d 204 [.ref l0, .ref 1062] h4 (some (.int r5)) h5) (q12 : ¬ (r5 = (0 : Int32))) (K : xm_E X P d co_X11_readNext 31 [some (.ref l0), none, none, none] [.int (1 : Int32)] h5 ro ho) : xm_E X P d co_X11_readNext 0 [some (.ref l0), none, none, none] [] h ro ho := by
  refine xm_E_s r_X11_readNext_0 rfl rfl ?_
  refine xm_E_cv [.ref l0] [] r_X11_readNext_1 rfl rfl (Nat.le_of_ble_eq_true rfl) (xm_rc q1 (by decide)) rfl q0 ?_
  refine xm_E_s r_X11_readNext_2 rfl rfl ?_
  refine xm_E_s r_X11_readNext_3 rfl rfl ?_
  refine xm_E_t q2 ?_
  refine xm_E_s r_X11_readNext_4 rfl rfl ?_
  refine xm_E_s r_X11_readNext_5 rfl rfl ?_
  refine xm_E_cv [.ref l0, .ref 1054] [] r_X11_readNext_6 rfl rfl (Nat.le_of_ble_eq_true rfl) (xm_rc q1 (by decide)) rfl q3 ?_
  refine xm_E_s r_X11_readNext_7 rfl rfl ?_
  refine xm_E_t q4 ?_
  refine xm_E_s r_X11_readNext_8 rfl rfl ?_
  refine xm_E_s r_X11_readNext_9 rfl rfl ?_
  refine xm_E_cv [.ref l0, .ref 1056] [] r_X11_readNext_10 rfl rfl (Nat.le_of_ble_eq_true rfl) (xm_rc q1 (by decide)) rfl q5 ?_
  refine xm_E_s r_X11_readNext_11 rfl rfl ?_
  refine xm_E_t q6 ?_
  refine xm_E_s r_X11_readNext_12 rfl rfl ?_
  refine xm_E_s r_X11_readNext_13 rfl rfl ?_
  refine xm_E_cv [.ref l0, .ref 1058] [] r_X11_readNext_14 rfl rfl (Nat.le_of_ble_eq_true rfl) (xm_rc q1 (by decide)) rfl q7 ?_
  refine xm_E_s r_X11_readNext_15 rfl rfl ?_
  refine xm_E_t q8 ?_
  refine xm_E_s r_X11_readNext_16 rfl rfl ?_
  refine xm_E_s r_X11_readNext_17 rfl rfl ?_
  refine xm_E_cv [.ref l0, .ref 1060] [] r_X11_readNext_18 rfl rfl (Nat.le_of_ble_eq_true rfl) (xm_rc q1 (by decide)) rfl q9 ?_
  refine xm_E_s r_X11_readNext_19 rfl rfl ?_
  refine xm_E_t q10 ?_
  refine xm_E_s r_X11_readNext_20 rfl rfl ?_
  refine xm_E_s r_X11_readNext_21 rfl rfl ?_
  refine xm_E_cv [.ref l0, .ref 1062] [] r_X11_readNext_22 rfl rfl (Nat.le_of_ble_eq_true rfl) (xm_rc q1 (by decide)) rfl q11 ?_
  refine xm_E_s r_X11_readNext_23 rfl rfl ?_
  refine xm_E_f q12 ?_
  refine xm_E_s r_X11_readNext_28 rfl rfl ?_
  refine xm_E_s r_X11_readNext_29 rfl rfl ?_
  exact K
theorem p_X11_readNext_0_3 {X : xm_X} {P : List xm_M} {d : Nat} {h : xm_H} {l0 : Nat} {h0 : xm_H} {r0 : Int32} {h1 : xm_H} {r1 : Int32} {h2 : xm_H} {r2 : Int32} {h3 : xm_H} {r3 : Int32} {h4 : xm_H} {r4 : Int32} {ro : Option Value} {ho : xm_H} (q0 : xm_V X P d 209 [.ref l0] h (some (.int r0)) h0) (q1 : X.1[l0]? = some (.inr 10)) (q2 : r0 = (-1 : Int32)) (q3 : xm_V X P d 204 [.ref l0, .ref 1054] h0 (some (.int r1)) h1) (q4 : r1 = (0 : Int32)) (q5 : xm_V X P d 204 [.ref l0, .ref 1056] h1 (some (.int r2)) h2) (q6 : r2 = (0 : Int32)) (q7 : xm_V X P d 204 [.ref l0, .ref 1058] h2 (some (.int r3)) h3) (q8 : r3 = (0 : Int32)) (q9 : xm_V X P d 204 [.ref l0, .ref 1060] h3 (some (.int r4)) h4) (q10 : ¬ (r4 = (0 : Int32))) (K : xm_E X P d co_X11_readNext 31 [some (.ref l0), none, none, none] [.int (1 : Int32)] h4 ro ho) : xm_E X P d co_X11_readNext 0 [some (.ref l0), none, none, none] [] h ro ho := by
  refine xm_E_s r_X11_readNext_0 rfl rfl ?_
  refine xm_E_cv [.ref l0] [] r_X11_readNext_1 rfl rfl (Nat.le_of_ble_eq_true rfl) (xm_rc q1 (by decide)) rfl q0 ?_
  refine xm_E_s r_X11_readNext_2 rfl rfl ?_
  refine xm_E_s r_X11_readNext_3 rfl rfl ?_
  refine xm_E_t q2 ?_
  refine xm_E_s r_X11_readNext_4 rfl rfl ?_
  refine xm_E_s r_X11_readNext_5 rfl rfl ?_
  refine xm_E_cv [.ref l0, .ref 1054] [] r_X11_readNext_6 rfl rfl (Nat.le_of_ble_eq_true rfl) (xm_rc q1 (by decide)) rfl q3 ?_
  refine xm_E_s r_X11_readNext_7 rfl rfl ?_
  refine xm_E_t q4 ?_
  refine xm_E_s r_X11_readNext_8 rfl rfl ?_
  refine xm_E_s r_X11_readNext_9 rfl rfl ?_
  refine xm_E_cv [.ref l0, .ref 1056] [] r_X11_readNext_10 rfl rfl (Nat.le_of_ble_eq_true rfl) (xm_rc q1 (by decide)) rfl q5 ?_
  refine xm_E_s r_X11_readNext_11 rfl rfl ?_
  refine xm_E_t q6 ?_
  refine xm_E_s r_X11_readNext_12 rfl rfl ?_
  refine xm_E_s r_X11_readNext_13 rfl rfl ?_
  refine xm_E_cv [.ref l0, .ref 1058] [] r_X11_readNext_14 rfl rfl (Nat.le_of_ble_eq_true rfl) (xm_rc q1 (by decide)) rfl q7 ?_
  refine xm_E_s r_X11_readNext_15 rfl rfl ?_
  refine xm_E_t q8 ?_
  refine xm_E_s r_X11_readNext_16 rfl rfl ?_
  refine xm_E_s r_X11_readNext_17 rfl rfl ?_
  refine xm_E_cv [.ref l0, .ref 1060] [] r_X11_readNext_18 rfl rfl (Nat.le_of_ble_eq_true rfl) (xm_rc q1 (by decide)) rfl q9 ?_
  refine xm_E_s r_X11_readNext_19 rfl rfl ?_
  refine xm_E_f q10 ?_
  refine xm_E_s r_X11_readNext_28 rfl rfl ?_
  refine xm_E_s r_X11_readNext_29 rfl rfl ?_
  exact K
theorem p_X11_readNext_0_4 {X : xm_X} {P : List xm_M} {d : Nat} {h : xm_H} {l0 : Nat} {h0 : xm_H} {r0 : Int32} {h1 : xm_H} {r1 : Int32} {h2 : xm_H} {r2 : Int32} {h3 : xm_H} {r3 : Int32} {ro : Option Value} {ho : xm_H} (q0 : xm_V X P d 209 [.ref l0] h (some (.int r0)) h0) (q1 : X.1[l0]? = some (.inr 10)) (q2 : r0 = (-1 : Int32)) (q3 : xm_V X P d 204 [.ref l0, .ref 1054] h0 (some (.int r1)) h1) (q4 : r1 = (0 : Int32)) (q5 : xm_V X P d 204 [.ref l0, .ref 1056] h1 (some (.int r2)) h2) (q6 : r2 = (0 : Int32)) (q7 : xm_V X P d 204 [.ref l0, .ref 1058] h2 (some (.int r3)) h3) (q8 : ¬ (r3 = (0 : Int32))) (K : xm_E X P d co_X11_readNext 31 [some (.ref l0), none, none, none] [.int (1 : Int32)] h3 ro ho) : xm_E X P d co_X11_readNext 0 [some (.ref l0), none, none, none] [] h ro ho := by
  refine xm_E_s r_X11_readNext_0 rfl rfl ?_
  refine xm_E_cv [.ref l0] [] r_X11_readNext_1 rfl rfl (Nat.le_of_ble_eq_true rfl) (xm_rc q1 (by decide)) rfl q0 ?_
  refine xm_E_s r_X11_readNext_2 rfl rfl ?_
  refine xm_E_s r_X11_readNext_3 rfl rfl ?_
  refine xm_E_t q2 ?_
  refine xm_E_s r_X11_readNext_4 rfl rfl ?_
  refine xm_E_s r_X11_readNext_5 rfl rfl ?_
  refine xm_E_cv [.ref l0, .ref 1054] [] r_X11_readNext_6 rfl rfl (Nat.le_of_ble_eq_true rfl) (xm_rc q1 (by decide)) rfl q3 ?_
  refine xm_E_s r_X11_readNext_7 rfl rfl ?_
  refine xm_E_t q4 ?_
  refine xm_E_s r_X11_readNext_8 rfl rfl ?_
  refine xm_E_s r_X11_readNext_9 rfl rfl ?_
  refine xm_E_cv [.ref l0, .ref 1056] [] r_X11_readNext_10 rfl rfl (Nat.le_of_ble_eq_true rfl) (xm_rc q1 (by decide)) rfl q5 ?_
  refine xm_E_s r_X11_readNext_11 rfl rfl ?_
  refine xm_E_t q6 ?_
  refine xm_E_s r_X11_readNext_12 rfl rfl ?_
  refine xm_E_s r_X11_readNext_13 rfl rfl ?_
  refine xm_E_cv [.ref l0, .ref 1058] [] r_X11_readNext_14 rfl rfl (Nat.le_of_ble_eq_true rfl) (xm_rc q1 (by decide)) rfl q7 ?_
  refine xm_E_s r_X11_readNext_15 rfl rfl ?_
  refine xm_E_f q8 ?_
  refine xm_E_s r_X11_readNext_28 rfl rfl ?_
  refine xm_E_s r_X11_readNext_29 rfl rfl ?_
  exact K
theorem p_X11_readNext_0_5 {X : xm_X} {P : List xm_M} {d : Nat} {h : xm_H} {l0 : Nat} {h0 : xm_H} {r0 : Int32} {h1 : xm_H} {r1 : Int32} {h2 : xm_H} {r2 : Int32} {ro : Option Value} {ho : xm_H} (q0 : xm_V X P d 209 [.ref l0] h (some (.int r0)) h0) (q1 : X.1[l0]? = some (.inr 10)) (q2 : r0 = (-1 : Int32)) (q3 : xm_V X P d 204 [.ref l0, .ref 1054] h0 (some (.int r1)) h1) (q4 : r1 = (0 : Int32)) (q5 : xm_V X P d 204 [.ref l0, .ref 1056] h1 (some (.int r2)) h2) (q6 : ¬ (r2 = (0 : Int32))) (K : xm_E X P d co_X11_readNext 31 [some (.ref l0), none, none, none] [.int (1 : Int32)] h2 ro ho) : xm_E X P d co_X11_readNext 0 [some (.ref l0), none, none, none] [] h ro ho := by
  refine xm_E_s r_X11_readNext_0 rfl rfl ?_
  refine xm_E_cv [.ref l0] [] r_X11_readNext_1 rfl rfl (Nat.le_of_ble_eq_true rfl) (xm_rc q1 (by decide)) rfl q0 ?_
  refine xm_E_s r_X11_readNext_2 rfl rfl ?_
  refine xm_E_s r_X11_readNext_3 rfl rfl ?_
  refine xm_E_t q2 ?_
  refine xm_E_s r_X11_readNext_4 rfl rfl ?_
  refine xm_E_s r_X11_readNext_5 rfl rfl ?_
  refine xm_E_cv [.ref l0, .ref 1054] [] r_X11_readNext_6 rfl rfl (Nat.le_of_ble_eq_true rfl) (xm_rc q1 (by decide)) rfl q3 ?_
  refine xm_E_s r_X11_readNext_7 rfl rfl ?_
  refine xm_E_t q4 ?_
  refine xm_E_s r_X11_readNext_8 rfl rfl ?_
  refine xm_E_s r_X11_readNext_9 rfl rfl ?_
  refine xm_E_cv [.ref l0, .ref 1056] [] r_X11_readNext_10 rfl rfl (Nat.le_of_ble_eq_true rfl) (xm_rc q1 (by decide)) rfl q5 ?_
  refine xm_E_s r_X11_readNext_11 rfl rfl ?_
  refine xm_E_f q6 ?_
  refine xm_E_s r_X11_readNext_28 rfl rfl ?_
  refine xm_E_s r_X11_readNext_29 rfl rfl ?_
  exact K
theorem p_X11_readNext_0_6 {X : xm_X} {P : List xm_M} {d : Nat} {h : xm_H} {l0 : Nat} {h0 : xm_H} {r0 : Int32} {h1 : xm_H} {r1 : Int32} {ro : Option Value} {ho : xm_H} (q0 : xm_V X P d 209 [.ref l0] h (some (.int r0)) h0) (q1 : X.1[l0]? = some (.inr 10)) (q2 : r0 = (-1 : Int32)) (q3 : xm_V X P d 204 [.ref l0, .ref 1054] h0 (some (.int r1)) h1) (q4 : ¬ (r1 = (0 : Int32))) (K : xm_E X P d co_X11_readNext 31 [some (.ref l0), none, none, none] [.int (1 : Int32)] h1 ro ho) : xm_E X P d co_X11_readNext 0 [some (.ref l0), none, none, none] [] h ro ho := by
  refine xm_E_s r_X11_readNext_0 rfl rfl ?_
  refine xm_E_cv [.ref l0] [] r_X11_readNext_1 rfl rfl (Nat.le_of_ble_eq_true rfl) (xm_rc q1 (by decide)) rfl q0 ?_
  refine xm_E_s r_X11_readNext_2 rfl rfl ?_
  refine xm_E_s r_X11_readNext_3 rfl rfl ?_
  refine xm_E_t q2 ?_
  refine xm_E_s r_X11_readNext_4 rfl rfl ?_
  refine xm_E_s r_X11_readNext_5 rfl rfl ?_
  refine xm_E_cv [.ref l0, .ref 1054] [] r_X11_readNext_6 rfl rfl (Nat.le_of_ble_eq_true rfl) (xm_rc q1 (by decide)) rfl q3 ?_
  refine xm_E_s r_X11_readNext_7 rfl rfl ?_
  refine xm_E_f q4 ?_
  refine xm_E_s r_X11_readNext_28 rfl rfl ?_
  refine xm_E_s r_X11_readNext_29 rfl rfl ?_
  exact K
theorem p_X11_readNext_0_7 {X : xm_X} {P : List xm_M} {d : Nat} {h : xm_H} {l0 : Nat} {h0 : xm_H} {r0 : Int32} {ro : Option Value} {ho : xm_H} (q0 : xm_V X P d 209 [.ref l0] h (some (.int r0)) h0) (q1 : X.1[l0]? = some (.inr 10)) (q2 : ¬ (r0 = (-1 : Int32))) (K : xm_E X P d co_X11_readNext 31 [some (.ref l0), none, none, none] [.int (1 : Int32)] h0 ro ho) : xm_E X P d co_X11_readNext 0 [some (.ref l0), none, none, none] [] h ro ho := by
  refine xm_E_s r_X11_readNext_0 rfl rfl ?_
  refine xm_E_cv [.ref l0] [] r_X11_readNext_1 rfl rfl (Nat.le_of_ble_eq_true rfl) (xm_rc q1 (by decide)) rfl q0 ?_
  refine xm_E_s r_X11_readNext_2 rfl rfl ?_
  refine xm_E_s r_X11_readNext_3 rfl rfl ?_
  refine xm_E_f q2 ?_
  refine xm_E_s r_X11_readNext_28 rfl rfl ?_
  refine xm_E_s r_X11_readNext_29 rfl rfl ?_
  exact K
theorem p_X11_readNext_31_0 {X : xm_X} {P : List xm_M} {d : Nat} {h : xm_H} {l0 : Nat} {t0 : Int32} {h0 : xm_H} {ro : Option Value} {ho : xm_H} (q0 : t0 = (0 : Int32)) (q1 : xm_V X P d 205 [.ref l0, .int (1 : Int32)] h none h0) (q2 : X.1[l0]? = some (.inr 10)) (K : xm_E X P d co_X11_readNext 37 [some (.ref l0), some (.int t0), none, none] [] h0 ro ho) : xm_E X P d co_X11_readNext 31 [some (.ref l0), none, none, none] [.int t0] h ro ho := by
  refine xm_E_s (ls1 := [some (.ref l0), some (.int t0), none, none]) r_X11_readNext_31 rfl rfl ?_
  refine xm_E_s r_X11_readNext_32 rfl rfl ?_
  refine xm_E_s r_X11_readNext_33 rfl rfl ?_
  refine xm_E_t q0 ?_
  refine xm_E_s r_X11_readNext_34 rfl rfl ?_
  refine xm_E_s r_X11_readNext_35 rfl rfl ?_
  refine xm_E_cv [.ref l0, .int (1 : Int32)] [] r_X11_readNext_36 rfl rfl (Nat.le_of_ble_eq_true rfl) (xm_rc q2 (by decide)) rfl q1 ?_
  exact K
theorem p_X11_readNext_31_1 {X : xm_X} {P : List xm_M} {d : Nat} {h : xm_H} {l0 : Nat} {t0 : Int32} {ro : Option Value} {ho : xm_H} (q0 : ¬ (t0 = (0 : Int32))) (K : xm_E X P d co_X11_readNext 37 [some (.ref l0), some (.int t0), none, none] [] h ro ho) : xm_E X P d co_X11_readNext 31 [some (.ref l0), none, none, none] [.int t0] h ro ho := by
  refine xm_E_s (ls1 := [some (.ref l0), some (.int t0), none, none]) r_X11_readNext_31 rfl rfl ?_
  refine xm_E_s r_X11_readNext_32 rfl rfl ?_
  refine xm_E_s r_X11_readNext_33 rfl rfl ?_
  refine xm_E_f q0 ?_
  exact K
theorem p_X11_readNext_37_0 {X : xm_X} {P : List xm_M} {d : Nat} {h : xm_H} {l0 : Nat} {l1 : Int32} {h0 : xm_H} {r0 : Int32} {ro : Option Value} {ho : xm_H} (q0 : xm_V X P d 204 [.ref l0, .ref 1054] h (some (.int r0)) h0) (q1 : X.1[l0]? = some (.inr 10)) (q2 : r0 = (0 : Int32)) (K : xm_E X P d co_X11_readNext 47 [some (.ref l0), some (.int l1), none, none] [] h0 ro ho) : xm_E X P d co_X11_readNext 37 [some (.ref l0), some (.int l1), none, none] [] h ro ho := by
  refine xm_E_s r_X11_readNext_37 rfl rfl ?_
  refine xm_E_s r_X11_readNext_38 rfl rfl ?_
  refine xm_E_cv [.ref l0, .ref 1054] [] r_X11_readNext_39 rfl rfl (Nat.le_of_ble_eq_true rfl) (xm_rc q1 (by decide)) rfl q0 ?_
  refine xm_E_s r_X11_readNext_40 rfl rfl ?_
  refine xm_E_t q2 ?_
  exact K
theorem p_X11_readNext_37_1 {X : xm_X} {P : List xm_M} {d : Nat} {h : xm_H} {l0 : Nat} {l1 : Int32} {h0 : xm_H} {r0 : Int32} {v1 : Nat} {n2 : Nat} {h3 : xm_H} {ro : Option Value} {ho : xm_H} (q0 : xm_V X P d 204 [.ref l0, .ref 1054] h (some (.int r0)) h0) (q1 : X.1[l0]? = some (.inr 10)) (q2 : ¬ (r0 = (0 : Int32))) (q3 : h0.2.2 l0 14 = some v1) (q4 : X.1[v1]? = some (.inl (0, n2))) (q5 : 19 < n2) (q6 : h0.1 v1 19 = (6 : Int32)) (q7 : xm_V X P d 205 [.ref l0, .int (3 : Int32)] h0 none h3) (K : xm_E X P d co_X11_readNext 70 [some (.ref l0), some (.int l1), none, none] [] h3 ro ho) : xm_E X P d co_X11_readNext 37 [some (.ref l0), some (.int l1), none, none] [] h ro ho := by
  refine xm_E_s r_X11_readNext_37 rfl rfl ?_
  refine xm_E_s r_X11_readNext_38 rfl rfl ?_
  refine xm_E_cv [.ref l0, .ref 1054] [] r_X11_readNext_39 rfl rfl (Nat.le_of_ble_eq_true rfl) (xm_rc q1 (by decide)) rfl q0 ?_
  refine xm_E_s r_X11_readNext_40 rfl rfl ?_
  refine xm_E_f q2 ?_
  refine xm_E_s r_X11_readNext_41 rfl rfl ?_
  refine xm_E_s r_X11_readNext_42 rfl (xm_T_gr rfl q1 rfl rfl q3) ?_
  refine xm_E_s r_X11_readNext_43 rfl rfl ?_
  refine xm_E_s r_X11_readNext_44 rfl (xm_T_iald rfl q4 (by decide) (fun e => e.elim (fun e => absurd e (by decide)) (fun e => Nat.not_le.mpr q5 e))) ?_
  refine xm_E_s r_X11_readNext_45 rfl rfl ?_
  refine xm_E_s r_X11_readNext_46 rfl rfl ?_
  refine xm_E_t q6 ?_
  refine xm_E_s r_X11_readNext_67 rfl rfl ?_
  refine xm_E_s r_X11_readNext_68 rfl rfl ?_
  refine xm_E_cv [.ref l0, .int (3 : Int32)] [] r_X11_readNext_69 rfl rfl (Nat.le_of_ble_eq_true rfl) (xm_rc q1 (by decide)) rfl q7 ?_
  exact K
theorem p_X11_readNext_37_2 {X : xm_X} {P : List xm_M} {d : Nat} {h : xm_H} {l0 : Nat} {l1 : Int32} {h0 : xm_H} {r0 : Int32} {v1 : Nat} {n2 : Nat} {ro : Option Value} {ho : xm_H} (q0 : xm_V X P d 204 [.ref l0, .ref 1054] h (some (.int r0)) h0) (q1 : X.1[l0]? = some (.inr 10)) (q2 : ¬ (r0 = (0 : Int32))) (q3 : h0.2.2 l0 14 = some v1) (q4 : X.1[v1]? = some (.inl (0, n2))) (q5 : 19 < n2) (q6 : ¬ (h0.1 v1 19 = (6 : Int32))) (K : xm_E X P d co_X11_readNext 47 [some (.ref l0), some (.int l1), none, none] [] h0 ro ho) : xm_E X P d co_X11_readNext 37 [some (.ref l0), some (.int l1), none, none] [] h ro ho := by
  refine xm_E_s r_X11_readNext_37 rfl rfl ?_
  refine xm_E_s r_X11_readNext_38 rfl rfl ?_
  refine xm_E_cv [.ref l0, .ref 1054] [] r_X11_readNext_39 rfl rfl (Nat.le_of_ble_eq_true rfl) (xm_rc q1 (by decide)) rfl q0 ?_
  refine xm_E_s r_X11_readNext_40 rfl rfl ?_
  refine xm_E_f q2 ?_
  refine xm_E_s r_X11_readNext_41 rfl rfl ?_
  refine xm_E_s r_X11_readNext_42 rfl (xm_T_gr rfl q1 rfl rfl q3) ?_
  refine xm_E_s r_X11_readNext_43 rfl rfl ?_
  refine xm_E_s r_X11_readNext_44 rfl (xm_T_iald rfl q4 (by decide) (fun e => e.elim (fun e => absurd e (by decide)) (fun e => Nat.not_le.mpr q5 e))) ?_
  refine xm_E_s r_X11_readNext_45 rfl rfl ?_
  refine xm_E_s r_X11_readNext_46 rfl rfl ?_
  refine xm_E_f q6 ?_
  exact K
theorem p_X11_readNext_47_0 {X : xm_X} {P : List xm_M} {d : Nat} {h : xm_H} {l0 : Nat} {l1 : Int32} {h0 : xm_H} {r0 : Int32} {h1 : xm_H} {r1 : Int32} {ro : Option Value} {ho : xm_H} (q0 : xm_V X P d 204 [.ref l0, .ref 1062] h (some (.int r0)) h0) (q1 : X.1[l0]? = some (.inr 10)) (q2 : r0 = (0 : Int32)) (q3 : xm_V X P d 204 [.ref l0, .ref 1064] h0 (some (.int r1)) h1) (q4 : r1 = (0 : Int32)) (K : xm_E X P d co_X11_readNext 70 [some (.ref l0), some (.int l1), none, none] [] h1 ro ho) : xm_E X P d co_X11_readNext 47 [some (.ref l0), some (.int l1), none, none] [] h ro ho := by
  refine xm_E_s r_X11_readNext_47 rfl rfl ?_
  refine xm_E_s r_X11_readNext_48 rfl rfl ?_
  refine xm_E_cv [.ref l0, .ref 1062] [] r_X11_readNext_49 rfl rfl (Nat.le_of_ble_eq_true rfl) (xm_rc q1 (by decide)) rfl q0 ?_
  refine xm_E_s r_X11_readNext_50 rfl rfl ?_
  refine xm_E_t q2 ?_
  refine xm_E_s r_X11_readNext_57 rfl rfl ?_
  refine xm_E_s r_X11_readNext_58 rfl rfl ?_
  refine xm_E_cv [.ref l0, .ref 1064] [] r_X11_readNext_59 rfl rfl (Nat.le_of_ble_eq_true rfl) (xm_rc q1 (by decide)) rfl q3 ?_
  refine xm_E_s r_X11_readNext_60 rfl rfl ?_
  refine xm_E_t q4 ?_
  exact K
theorem p_X11_readNext_47_1 {X : xm_X} {P : List xm_M} {d : Nat} {h : xm_H} {l0 : Nat} {l1 : Int32} {h0 : xm_H} {r0 : Int32} {h1 : xm_H} {r1 : Int32} {v2 : Nat} {n3 : Nat} {h4 : xm_H} {ro : Option Value} {ho : xm_H} (q0 : xm_V X P d 204 [.ref l0, .ref 1062] h (some (.int r0)) h0) (q1 : X.1[l0]? = some (.inr 10)) (q2 : r0 = (0 : Int32)) (q3 : xm_V X P d 204 [.ref l0, .ref 1064] h0 (some (.int r1)) h1) (q4 : ¬ (r1 = (0 : Int32))) (q5 : h1.2.2 l0 14 = some v2) (q6 : X.1[v2]? = some (.inl (0, n3))) (q7 : 21 < n3) (q8 : h1.1 v2 21 = (6 : Int32)) (q9 : xm_V X P d 205 [.ref l0, .int (3 : Int32)] h1 none h4) (K : xm_E X P d co_X11_readNext 70 [some (.ref l0), some (.int l1), none, none] [] h4 ro ho) : xm_E X P d co_X11_readNext 47 [some (.ref l0), some (.int l1), none, none] [] h ro ho := by
  refine xm_E_s r_X11_readNext_47 rfl rfl ?_
  refine xm_E_s r_X11_readNext_48 rfl rfl ?_
  refine xm_E_cv [.ref l0, .ref 1062] [] r_X11_readNext_49 rfl rfl (Nat.le_of_ble_eq_true rfl) (xm_rc q1 (by decide)) rfl q0 ?_
  refine xm_E_s r_X11_readNext_50 rfl rfl ?_
  refine xm_E_t q2 ?_
  refine xm_E_s r_X11_readNext_57 rfl rfl ?_
  refine xm_E_s r_X11_readNext_58 rfl rfl ?_
  refine xm_E_cv [.ref l0, .ref 1064] [] r_X11_readNext_59 rfl rfl (Nat.le_of_ble_eq_true rfl) (xm_rc q1 (by decide)) rfl q3 ?_
  refine xm_E_s r_X11_readNext_60 rfl rfl ?_
  refine xm_E_f q4 ?_
  refine xm_E_s r_X11_readNext_61 rfl rfl ?_
  refine xm_E_s r_X11_readNext_62 rfl (xm_T_gr rfl q1 rfl rfl q5) ?_
  refine xm_E_s r_X11_readNext_63 rfl rfl ?_
  refine xm_E_s r_X11_readNext_64 rfl (xm_T_iald rfl q6 (by decide) (fun e => e.elim (fun e => absurd e (by decide)) (fun e => Nat.not_le.mpr q7 e))) ?_
  refine xm_E_s r_X11_readNext_65 rfl rfl ?_
  refine xm_E_s r_X11_readNext_66 rfl rfl ?_
  refine xm_E_t q8 ?_
  refine xm_E_s r_X11_readNext_67 rfl rfl ?_
  refine xm_E_s r_X11_readNext_68 rfl rfl ?_
  refine xm_E_cv [.ref l0, .int (3 : Int32)] [] r_X11_readNext_69 rfl rfl (Nat.le_of_ble_eq_true rfl) (xm_rc q1 (by decide)) rfl q9 ?_
  exact K
theorem p_X11_readNext_47_2 {X : xm_X} {P : List xm_M} {d : Nat} {h : xm_H} {l0 : Nat} {l1 : Int32} {h0 : xm_H} {r0 : Int32} {h1 : xm_H} {r1 : Int32} {v2 : Nat} {n3 : Nat} {ro : Option Value} {ho : xm_H} (q0 : xm_V X P d 204 [.ref l0, .ref 1062] h (some (.int r0)) h0) (q1 : X.1[l0]? = some (.inr 10)) (q2 : r0 = (0 : Int32)) (q3 : xm_V X P d 204 [.ref l0, .ref 1064] h0 (some (.int r1)) h1) (q4 : ¬ (r1 = (0 : Int32))) (q5 : h1.2.2 l0 14 = some v2) (q6 : X.1[v2]? = some (.inl (0, n3))) (q7 : 21 < n3) (q8 : ¬ (h1.1 v2 21 = (6 : Int32))) (K : xm_E X P d co_X11_readNext 70 [some (.ref l0), some (.int l1), none, none] [] h1 ro ho) : xm_E X P d co_X11_readNext 47 [some (.ref l0), some (.int l1), none, none] [] h ro ho := by
  refine xm_E_s r_X11_readNext_47 rfl rfl ?_
  refine xm_E_s r_X11_readNext_48 rfl rfl ?_
  refine xm_E_cv [.ref l0, .ref 1062] [] r_X11_readNext_49 rfl rfl (Nat.le_of_ble_eq_true rfl) (xm_rc q1 (by decide)) rfl q0 ?_
  refine xm_E_s r_X11_readNext_50 rfl rfl ?_
  refine xm_E_t q2 ?_
  refine xm_E_s r_X11_readNext_57 rfl rfl ?_
  refine xm_E_s r_X11_readNext_58 rfl rfl ?_
  refine xm_E_cv [.ref l0, .ref 1064] [] r_X11_readNext_59 rfl rfl (Nat.le_of_ble_eq_true rfl) (xm_rc q1 (by decide)) rfl q3 ?_
  refine xm_E_s r_X11_readNext_60 rfl rfl ?_
  refine xm_E_f q4 ?_
  refine xm_E_s r_X11_readNext_61 rfl rfl ?_
  refine xm_E_s r_X11_readNext_62 rfl (xm_T_gr rfl q1 rfl rfl q5) ?_
  refine xm_E_s r_X11_readNext_63 rfl rfl ?_
  refine xm_E_s r_X11_readNext_64 rfl (xm_T_iald rfl q6 (by decide) (fun e => e.elim (fun e => absurd e (by decide)) (fun e => Nat.not_le.mpr q7 e))) ?_
  refine xm_E_s r_X11_readNext_65 rfl rfl ?_
  refine xm_E_s r_X11_readNext_66 rfl rfl ?_
  refine xm_E_f q8 ?_
  exact K
theorem p_X11_readNext_47_3 {X : xm_X} {P : List xm_M} {d : Nat} {h : xm_H} {l0 : Nat} {l1 : Int32} {h0 : xm_H} {r0 : Int32} {v1 : Nat} {n2 : Nat} {h3 : xm_H} {ro : Option Value} {ho : xm_H} (q0 : xm_V X P d 204 [.ref l0, .ref 1062] h (some (.int r0)) h0) (q1 : X.1[l0]? = some (.inr 10)) (q2 : ¬ (r0 = (0 : Int32))) (q3 : h0.2.2 l0 14 = some v1) (q4 : X.1[v1]? = some (.inl (0, n2))) (q5 : 20 < n2) (q6 : h0.1 v1 20 = (4 : Int32)) (q7 : xm_V X P d 205 [.ref l0, .int (3 : Int32)] h0 none h3) (K : xm_E X P d co_X11_readNext 70 [some (.ref l0), some (.int l1), none, none] [] h3 ro ho) : xm_E X P d co_X11_readNext 47 [some (.ref l0), some (.int l1), none, none] [] h ro ho := by
  refine xm_E_s r_X11_readNext_47 rfl rfl ?_
  refine xm_E_s r_X11_readNext_48 rfl rfl ?_
  refine xm_E_cv [.ref l0, .ref 1062] [] r_X11_readNext_49 rfl rfl (Nat.le_of_ble_eq_true rfl) (xm_rc q1 (by decide)) rfl q0 ?_
  refine xm_E_s r_X11_readNext_50 rfl rfl ?_
  refine xm_E_f q2 ?_
  refine xm_E_s r_X11_readNext_51 rfl rfl ?_
  refine xm_E_s r_X11_readNext_52 rfl (xm_T_gr rfl q1 rfl rfl q3) ?_
  refine xm_E_s r_X11_readNext_53 rfl rfl ?_
  refine xm_E_s r_X11_readNext_54 rfl (xm_T_iald rfl q4 (by decide) (fun e => e.elim (fun e => absurd e (by decide)) (fun e => Nat.not_le.mpr q5 e))) ?_
  refine xm_E_s r_X11_readNext_55 rfl rfl ?_
  refine xm_E_s r_X11_readNext_56 rfl rfl ?_
  refine xm_E_t q6 ?_
  refine xm_E_s r_X11_readNext_67 rfl rfl ?_
  refine xm_E_s r_X11_readNext_68 rfl rfl ?_
  refine xm_E_cv [.ref l0, .int (3 : Int32)] [] r_X11_readNext_69 rfl rfl (Nat.le_of_ble_eq_true rfl) (xm_rc q1 (by decide)) rfl q7 ?_
  exact K
theorem p_X11_readNext_47_4 {X : xm_X} {P : List xm_M} {d : Nat} {h : xm_H} {l0 : Nat} {l1 : Int32} {h0 : xm_H} {r0 : Int32} {v1 : Nat} {n2 : Nat} {h3 : xm_H} {r3 : Int32} {ro : Option Value} {ho : xm_H} (q0 : xm_V X P d 204 [.ref l0, .ref 1062] h (some (.int r0)) h0) (q1 : X.1[l0]? = some (.inr 10)) (q2 : ¬ (r0 = (0 : Int32))) (q3 : h0.2.2 l0 14 = some v1) (q4 : X.1[v1]? = some (.inl (0, n2))) (q5 : 20 < n2) (q6 : ¬ (h0.1 v1 20 = (4 : Int32))) (q7 : xm_V X P d 204 [.ref l0, .ref 1064] h0 (some (.int r3)) h3) (q8 : r3 = (0 : Int32)) (K : xm_E X P d co_X11_readNext 70 [some (.ref l0), some (.int l1), none, none] [] h3 ro ho) : xm_E X P d co_X11_readNext 47 [some (.ref l0), some (.int l1), none, none] [] h ro ho := by
  refine xm_E_s r_X11_readNext_47 rfl rfl ?_
  refine xm_E_s r_X11_readNext_48 rfl rfl ?_
  refine xm_E_cv [.ref l0, .ref 1062] [] r_X11_readNext_49 rfl rfl (Nat.le_of_ble_eq_true rfl) (xm_rc q1 (by decide)) rfl q0 ?_
  refine xm_E_s r_X11_readNext_50 rfl rfl ?_
  refine xm_E_f q2 ?_
  refine xm_E_s r_X11_readNext_51 rfl rfl ?_
  refine xm_E_s r_X11_readNext_52 rfl (xm_T_gr rfl q1 rfl rfl q3) ?_
  refine xm_E_s r_X11_readNext_53 rfl rfl ?_
  refine xm_E_s r_X11_readNext_54 rfl (xm_T_iald rfl q4 (by decide) (fun e => e.elim (fun e => absurd e (by decide)) (fun e => Nat.not_le.mpr q5 e))) ?_
  refine xm_E_s r_X11_readNext_55 rfl rfl ?_
  refine xm_E_s r_X11_readNext_56 rfl rfl ?_
  refine xm_E_f q6 ?_
  refine xm_E_s r_X11_readNext_57 rfl rfl ?_
  refine xm_E_s r_X11_readNext_58 rfl rfl ?_
  refine xm_E_cv [.ref l0, .ref 1064] [] r_X11_readNext_59 rfl rfl (Nat.le_of_ble_eq_true rfl) (xm_rc q1 (by decide)) rfl q7 ?_
  refine xm_E_s r_X11_readNext_60 rfl rfl ?_
  refine xm_E_t q8 ?_
  exact K
theorem p_X11_readNext_47_5 {X : xm_X} {P : List xm_M} {d : Nat} {h : xm_H} {l0 : Nat} {l1 : Int32} {h0 : xm_H} {r0 : Int32} {v1 : Nat} {n2 : Nat} {h3 : xm_H} {r3 : Int32} {v4 : Nat} {n5 : Nat} {h6 : xm_H} {ro : Option Value} {ho : xm_H} (q0 : xm_V X P d 204 [.ref l0, .ref 1062] h (some (.int r0)) h0) (q1 : X.1[l0]? = some (.inr 10)) (q2 : ¬ (r0 = (0 : Int32))) (q3 : h0.2.2 l0 14 = some v1) (q4 : X.1[v1]? = some (.inl (0, n2))) (q5 : 20 < n2) (q6 : ¬ (h0.1 v1 20 = (4 : Int32))) (q7 : xm_V X P d 204 [.ref l0, .ref 1064] h0 (some (.int r3)) h3) (q8 : ¬ (r3 = (0 : Int32))) (q9 : h3.2.2 l0 14 = some v4) (q10 : X.1[v4]? = some (.inl (0, n5))) (q11 : 21 < n5) (q12 : h3.1 v4 21 = (6 : Int32)) (q13 : xm_V X P d 205 [.ref l0, .int (3 : Int32)] h3 none h6) (K : xm_E X P d co_X11_readNext 70 [some (.ref l0), some (.int l1), none, none] [] h6 ro ho) : xm_E X P d co_X11_readNext 47 [some (.ref l0), some (.int l1), none, none] [] h ro ho := by
  refine xm_E_s r_X11_readNext_47 rfl rfl ?_
  refine xm_E_s r_X11_readNext_48 rfl rfl ?_
  refine xm_E_cv [.ref l0, .ref 1062] [] r_X11_readNext_49 rfl rfl (Nat.le_of_ble_eq_true rfl) (xm_rc q1 (by decide)) rfl q0 ?_
  refine xm_E_s r_X11_readNext_50 rfl rfl ?_
  refine xm_E_f q2 ?_
  refine xm_E_s r_X11_readNext_51 rfl rfl ?_
  refine xm_E_s r_X11_readNext_52 rfl (xm_T_gr rfl q1 rfl rfl q3) ?_
  refine xm_E_s r_X11_readNext_53 rfl rfl ?_
  refine xm_E_s r_X11_readNext_54 rfl (xm_T_iald rfl q4 (by decide) (fun e => e.elim (fun e => absurd e (by decide)) (fun e => Nat.not_le.mpr q5 e))) ?_
  refine xm_E_s r_X11_readNext_55 rfl rfl ?_
  refine xm_E_s r_X11_readNext_56 rfl rfl ?_
  refine xm_E_f q6 ?_
  refine xm_E_s r_X11_readNext_57 rfl rfl ?_
  refine xm_E_s r_X11_readNext_58 rfl rfl ?_
  refine xm_E_cv [.ref l0, .ref 1064] [] r_X11_readNext_59 rfl rfl (Nat.le_of_ble_eq_true rfl) (xm_rc q1 (by decide)) rfl q7 ?_
  refine xm_E_s r_X11_readNext_60 rfl rfl ?_
  refine xm_E_f q8 ?_
  refine xm_E_s r_X11_readNext_61 rfl rfl ?_
  refine xm_E_s r_X11_readNext_62 rfl (xm_T_gr rfl q1 rfl rfl q9) ?_
  refine xm_E_s r_X11_readNext_63 rfl rfl ?_
  refine xm_E_s r_X11_readNext_64 rfl (xm_T_iald rfl q10 (by decide) (fun e => e.elim (fun e => absurd e (by decide)) (fun e => Nat.not_le.mpr q11 e))) ?_
  refine xm_E_s r_X11_readNext_65 rfl rfl ?_
  refine xm_E_s r_X11_readNext_66 rfl rfl ?_
  refine xm_E_t q12 ?_
  refine xm_E_s r_X11_readNext_67 rfl rfl ?_
  refine xm_E_s r_X11_readNext_68 rfl rfl ?_
  refine xm_E_cv [.ref l0, .int (3 : Int32)] [] r_X11_readNext_69 rfl rfl (Nat.le_of_ble_eq_true rfl) (xm_rc q1 (by decide)) rfl q13 ?_
  exact K
theorem p_X11_readNext_47_6 {X : xm_X} {P : List xm_M} {d : Nat} {h : xm_H} {l0 : Nat} {l1 : Int32} {h0 : xm_H} {r0 : Int32} {v1 : Nat} {n2 : Nat} {h3 : xm_H} {r3 : Int32} {v4 : Nat} {n5 : Nat} {ro : Option Value} {ho : xm_H} (q0 : xm_V X P d 204 [.ref l0, .ref 1062] h (some (.int r0)) h0) (q1 : X.1[l0]? = some (.inr 10)) (q2 : ¬ (r0 = (0 : Int32))) (q3 : h0.2.2 l0 14 = some v1) (q4 : X.1[v1]? = some (.inl (0, n2))) (q5 : 20 < n2) (q6 : ¬ (h0.1 v1 20 = (4 : Int32))) (q7 : xm_V X P d 204 [.ref l0, .ref 1064] h0 (some (.int r3)) h3) (q8 : ¬ (r3 = (0 : Int32))) (q9 : h3.2.2 l0 14 = some v4) (q10 : X.1[v4]? = some (.inl (0, n5))) (q11 : 21 < n5) (q12 : ¬ (h3.1 v4 21 = (6 : Int32))) (K : xm_E X P d co_X11_readNext 70 [some (.ref l0), some (.int l1), none, none] [] h3 ro ho) : xm_E X P d co_X11_readNext 47 [some (.ref l0), some (.int l1), none, none] [] h ro ho := by
  refine xm_E_s r_X11_readNext_47 rfl rfl ?_
  refine xm_E_s r_X11_readNext_48 rfl rfl ?_
  refine xm_E_cv [.ref l0, .ref 1062] [] r_X11_readNext_49 rfl rfl (Nat.le_of_ble_eq_true rfl) (xm_rc q1 (by decide)) rfl q0 ?_
  refine xm_E_s r_X11_readNext_50 rfl rfl ?_
  refine xm_E_f q2 ?_
  refine xm_E_s r_X11_readNext_51 rfl rfl ?_
  refine xm_E_s r_X11_readNext_52 rfl (xm_T_gr rfl q1 rfl rfl q3) ?_
  refine xm_E_s r_X11_readNext_53 rfl rfl ?_
  refine xm_E_s r_X11_readNext_54 rfl (xm_T_iald rfl q4 (by decide) (fun e => e.elim (fun e => absurd e (by decide)) (fun e => Nat.not_le.mpr q5 e))) ?_
  refine xm_E_s r_X11_readNext_55 rfl rfl ?_
  refine xm_E_s r_X11_readNext_56 rfl rfl ?_
  refine xm_E_f q6 ?_
  refine xm_E_s r_X11_readNext_57 rfl rfl ?_
  refine xm_E_s r_X11_readNext_58 rfl rfl ?_
  refine xm_E_cv [.ref l0, .ref 1064] [] r_X11_readNext_59 rfl rfl (Nat.le_of_ble_eq_true rfl) (xm_rc q1 (by decide)) rfl q7 ?_
  refine xm_E_s r_X11_readNext_60 rfl rfl ?_
  refine xm_E_f q8 ?_
  refine xm_E_s r_X11_readNext_61 rfl rfl ?_
  refine xm_E_s r_X11_readNext_62 rfl (xm_T_gr rfl q1 rfl rfl q9) ?_
  refine xm_E_s r_X11_readNext_63 rfl rfl ?_
  refine xm_E_s r_X11_readNext_64 rfl (xm_T_iald rfl q10 (by decide) (fun e => e.elim (fun e => absurd e (by decide)) (fun e => Nat.not_le.mpr q11 e))) ?_
  refine xm_E_s r_X11_readNext_65 rfl rfl ?_
  refine xm_E_s r_X11_readNext_66 rfl rfl ?_
  refine xm_E_f q12 ?_
  exact K
theorem p_X11_readNext_70_0 {X : xm_X} {P : List xm_M} {d : Nat} {h : xm_H} {l0 : Nat} {l1 : Int32} {h0 : xm_H} {r0 : Int32} (q0 : xm_V X P d 199 [.ref l0] h (some (.int r0)) h0) (q1 : X.1[l0]? = some (.inr 10)) (q2 : r0 = (0 : Int32)) : xm_E X P d co_X11_readNext 70 [some (.ref l0), some (.int l1), none, none] [] h none h0 := by
  refine xm_E_s r_X11_readNext_70 rfl rfl ?_
  refine xm_E_cv [.ref l0] [] r_X11_readNext_71 rfl rfl (Nat.le_of_ble_eq_true rfl) (xm_rc q1 (by decide)) rfl q0 ?_
  refine xm_E_s r_X11_readNext_72 rfl rfl ?_
  refine xm_E_t q2 ?_
  exact xm_E_ret r_X11_readNext_73 rfl
theorem p_X11_readNext_70_1 {X : xm_X} {P : List xm_M} {d : Nat} {h : xm_H} {l0 : Nat} {l1 : Int32} {h0 : xm_H} {r0 : Int32} {h1 : xm_H} {r1 : Int32} {h2 : xm_H} {r2 : Int32} {h3 : xm_H} {r3 : Int32} {h4 : xm_H} {r4 : Int32} {h5 : xm_H} {r5 : Int32} {h6 : xm_H} {r6 : Int32} {h7 : xm_H} {v8 : Nat} {n9 : Nat} {h10 : xm_H} {r10 : Int32} {v11 : Nat} {n12 : Nat} (q0 : xm_V X P d 199 [.ref l0] h (some (.int r0)) h0) (q1 : X.1[l0]? = some (.inr 10)) (q2 : ¬ (r0 = (0 : Int32))) (q3 : xm_V X P d 209 [.ref l0] h0 (some (.int r1)) h1) (q4 : r1 = (-1 : Int32)) (q5 : xm_V X P d 203 [.ref l0, .ref 1054] h1 (some (.int r2)) h2) (q6 : r2 = (0 : Int32)) (q7 : xm_V X P d 203 [.ref l0, .ref 1056] h2 (some (.int r3)) h3) (q8 : r3 = (0 : Int32)) (q9 : xm_V X P d 203 [.ref l0, .ref 1058] h3 (some (.int r4)) h4) (q10 : r4 = (0 : Int32)) (q11 : xm_V X P d 203 [.ref l0, .ref 1060] h4 (some (.int r5)) h5) (q12 : r5 = (0 : Int32)) (q13 : xm_V X P d 203 [.ref l0, .ref 1062] h5 (some (.int r6)) h6) (q14 : r6 = (0 : Int32)) (q15 : xm_V X P d 197 [.ref l0] h6 none h7) (q16 : h7.2.2 l0 14 = some v8) (q17 : X.1[v8]? = some (.inl (0, n9))) (q18 : 21 < n9) (q19 : xm_V X P d 207 [.ref l0, .int (1 : Int32), .int (60 : Int32)] h7 (some (.int r10)) h10) (q20 : ¬ ((44 : Int32) + (h7.1 v8 21) < 0 ∨ n9 ≤ ((44 : Int32) + (h7.1 v8 21)).toNatClampNeg)) (q21 : (xm_si h10 v8 (((44 : Int32) + (h7.1 v8 21)).toNatClampNeg) r10).2.2 l0 14 = some v11) (q22 : X.1[v11]? = some (.inl (0, n12))) (q23 : 21 < n12) : xm_E X P d co_X11_readNext 70 [some (.ref l0), some (.int l1), none, none] [] h none (xm_si (xm_si h10 v8 (((44 : Int32) + (h7.1 v8 21)).toNatClampNeg) r10) v11 21 (((xm_si h10 v8 (((44 : Int32) + (h7.1 v8 21)).toNatClampNeg) r10).1 v11 21) + (1 : Int32))) := by
  refine xm_E_s r_X11_readNext_70 rfl rfl ?_
  refine xm_E_cv [.ref l0] [] r_X11_readNext_71 rfl rfl (Nat.le_of_ble_eq_true rfl) (xm_rc q1 (by decide)) rfl q0 ?_
  refine xm_E_s r_X11_readNext_72 rfl rfl ?_
  refine xm_E_f q2 ?_
  refine xm_E_s r_X11_readNext_74 rfl rfl ?_
  refine xm_E_cv [.ref l0] [] r_X11_readNext_75 rfl rfl (Nat.le_of_ble_eq_true rfl) (xm_rc q1 (by decide)) rfl q3 ?_
  refine xm_E_s (ls1 := [some (.ref l0), some (.int l1), some (.int r1), none]) r_X11_readNext_76 rfl rfl ?_
  refine xm_E_s r_X11_readNext_77 rfl rfl ?_
  refine xm_E_s r_X11_readNext_78 rfl rfl ?_
  refine xm_E_s r_X11_readNext_79 rfl rfl ?_
  refine xm_E_t q4 ?_
  refine xm_E_s r_X11_readNext_99 rfl rfl ?_
  refine xm_E_s r_X11_readNext_100 rfl rfl ?_
  refine xm_E_cv [.ref l0, .ref 1054] [] r_X11_readNext_101 rfl rfl (Nat.le_of_ble_eq_true rfl) (xm_rc q1 (by decide)) rfl q5 ?_
  refine xm_E_s r_X11_readNext_102 rfl rfl ?_
  refine xm_E_t q6 ?_
  refine xm_E_s r_X11_readNext_106 rfl rfl ?_
  refine xm_E_s r_X11_readNext_107 rfl rfl ?_
  refine xm_E_cv [.ref l0, .ref 1056] [] r_X11_readNext_108 rfl rfl (Nat.le_of_ble_eq_true rfl) (xm_rc q1 (by decide)) rfl q7 ?_
  refine xm_E_s r_X11_readNext_109 rfl rfl ?_
  refine xm_E_t q8 ?_
  refine xm_E_s r_X11_readNext_129 rfl rfl ?_
  refine xm_E_s r_X11_readNext_130 rfl rfl ?_
  refine xm_E_cv [.ref l0, .ref 1058] [] r_X11_readNext_131 rfl rfl (Nat.le_of_ble_eq_true rfl) (xm_rc q1 (by decide)) rfl q9 ?_
  refine xm_E_s r_X11_readNext_132 rfl rfl ?_
  refine xm_E_t q10 ?_
  refine xm_E_s r_X11_readNext_136 rfl rfl ?_
  refine xm_E_s r_X11_readNext_137 rfl rfl ?_
  refine xm_E_cv [.ref l0, .ref 1060] [] r_X11_readNext_138 rfl rfl (Nat.le_of_ble_eq_true rfl) (xm_rc q1 (by decide)) rfl q11 ?_
  refine xm_E_s r_X11_readNext_139 rfl rfl ?_
  refine xm_E_t q12 ?_
  refine xm_E_s r_X11_readNext_149 rfl rfl ?_
  refine xm_E_s r_X11_readNext_150 rfl rfl ?_
  refine xm_E_cv [.ref l0, .ref 1062] [] r_X11_readNext_151 rfl rfl (Nat.le_of_ble_eq_true rfl) (xm_rc q1 (by decide)) rfl q13 ?_
  refine xm_E_s r_X11_readNext_152 rfl rfl ?_
  refine xm_E_t q14 ?_
  refine xm_E_s r_X11_readNext_195 rfl rfl ?_
  refine xm_E_cv [.ref l0] [] r_X11_readNext_196 rfl rfl (Nat.le_of_ble_eq_true rfl) (xm_rc q1 (by decide)) rfl q15 ?_
  refine xm_E_s r_X11_readNext_197 rfl rfl ?_
  refine xm_E_s r_X11_readNext_198 rfl (xm_T_gr rfl q1 rfl rfl q16) ?_
  refine xm_E_s r_X11_readNext_199 rfl rfl ?_
  refine xm_E_s r_X11_readNext_200 rfl rfl ?_
  refine xm_E_s r_X11_readNext_201 rfl (xm_T_gr rfl q1 rfl rfl q16) ?_
  refine xm_E_s r_X11_readNext_202 rfl rfl ?_
  refine xm_E_s r_X11_readNext_203 rfl (xm_T_iald rfl q17 (by decide) (fun e => e.elim (fun e => absurd e (by decide)) (fun e => Nat.not_le.mpr q18 e))) ?_
  refine xm_E_s r_X11_readNext_204 rfl rfl ?_
  refine xm_E_s r_X11_readNext_205 rfl rfl ?_
  refine xm_E_s r_X11_readNext_206 rfl rfl ?_
  refine xm_E_s r_X11_readNext_207 rfl rfl ?_
  refine xm_E_cv [.ref l0, .int (1 : Int32), .int (60 : Int32)] [.int ((44 : Int32) + (h7.1 v8 21)), .ref v8] r_X11_readNext_208 rfl rfl (Nat.le_of_ble_eq_true rfl) (xm_rc q1 (by decide)) rfl q19 ?_
  refine xm_E_s r_X11_readNext_209 rfl (xm_T_asi rfl q17 q20) ?_
  refine xm_E_s r_X11_readNext_210 rfl rfl ?_
  refine xm_E_s r_X11_readNext_211 rfl (xm_T_gr rfl q1 rfl rfl q21) ?_
  refine xm_E_s r_X11_readNext_212 rfl rfl ?_
  refine xm_E_s r_X11_readNext_213 rfl rfl ?_
  refine xm_E_s r_X11_readNext_214 rfl (xm_T_iald rfl q22 (by decide) (fun e => e.elim (fun e => absurd e (by decide)) (fun e => Nat.not_le.mpr q23 e))) ?_
  refine xm_E_s r_X11_readNext_215 rfl rfl ?_
  refine xm_E_s r_X11_readNext_216 rfl rfl ?_
  refine xm_E_s r_X11_readNext_217 rfl (xm_T_asi rfl q22 (fun e => e.elim (fun e => absurd e (by decide)) (fun e => Nat.not_le.mpr q23 e))) ?_
  exact xm_E_ret r_X11_readNext_218 rfl
theorem p_X11_readNext_70_2 {X : xm_X} {P : List xm_M} {d : Nat} {h : xm_H} {l0 : Nat} {l1 : Int32} {h0 : xm_H} {r0 : Int32} {h1 : xm_H} {r1 : Int32} {h2 : xm_H} {r2 : Int32} {h3 : xm_H} {r3 : Int32} {h4 : xm_H} {r4 : Int32} {h5 : xm_H} {r5 : Int32} {h6 : xm_H} {r6 : Int32} {v7 : Nat} {n8 : Nat} {h9 : xm_H} {r9 : Int32} {v10 : Nat} {n11 : Nat} {h12 : xm_H} {r12 : Int32} {v13 : Nat} {n14 : Nat} (q0 : xm_V X P d 199 [.ref l0] h (some (.int r0)) h0) (q1 : X.1[l0]? = some (.inr 10)) (q2 : ¬ (r0 = (0 : Int32))) (q3 : xm_V X P d 209 [.ref l0] h0 (some (.int r1)) h1) (q4 : r1 = (-1 : Int32)) (q5 : xm_V X P d 203 [.ref l0, .ref 1054] h1 (some (.int r2)) h2) (q6 : r2 = (0 : Int32)) (q7 : xm_V X P d 203 [.ref l0, .ref 1056] h2 (some (.int r3)) h3) (q8 : r3 = (0 : Int32)) (q9 : xm_V X P d 203 [.ref l0, .ref 1058] h3 (some (.int r4)) h4) (q10 : r4 = (0 : Int32)) (q11 : xm_V X P d 203 [.ref l0, .ref 1060] h4 (some (.int r5)) h5) (q12 : r5 = (0 : Int32)) (q13 : xm_V X P d 203 [.ref l0, .ref 1062] h5 (some (.int r6)) h6) (q14 : ¬ (r6 = (0 : Int32))) (q15 : h6.2.2 l0 14 = some v7) (q16 : X.1[v7]? = some (.inl (0, n8))) (q17 : 20 < n8) (q18 : xm_V X P d 207 [.ref l0, .int (1 : Int32), .int (99 : Int32)] h6 (some (.int r9)) h9) (q19 : ¬ ((36 : Int32) + ((2 : Int32) * (h6.1 v7 20)) < 0 ∨ n8 ≤ ((36 : Int32) + ((2 : Int32) * (h6.1 v7 20))).toNatClampNeg)) (q20 : (xm_si h9 v7 (((36 : Int32) + ((2 : Int32) * (h6.1 v7 20))).toNatClampNeg) r9).2.2 l0 14 = some v10) (q21 : X.1[v10]? = some (.inl (0, n11))) (q22 : 20 < n11) (q23 : xm_V X P d 206 [.ref l0, .ref 1094, .int (0 : Int32), .int (999 : Int32)] (xm_si h9 v7 (((36 : Int32) + ((2 : Int32) * (h6.1 v7 20))).toNatClampNeg) r9) (some (.int r12)) h12) (q24 : ¬ (((36 : Int32) + ((2 : Int32) * ((xm_si h9 v7 (((36 : Int32) + ((2 : Int32) * (h6.1 v7 20))).toNatClampNeg) r9).1 v10 20))) + (1 : Int32) < 0 ∨ n11 ≤ (((36 : Int32) + ((2 : Int32) * ((xm_si h9 v7 (((36 : Int32) + ((2 : Int32) * (h6.1 v7 20))).toNatClampNeg) r9).1 v10 20))) + (1 : Int32)).toNatClampNeg)) (q25 : (xm_si h12 v10 ((((36 : Int32) + ((2 : Int32) * ((xm_si h9 v7 (((36 : Int32) + ((2 : Int32) * (h6.1 v7 20))).toNatClampNeg) r9).1 v10 20))) + (1 : Int32)).toNatClampNeg) r12).2.2 l0 14 = some v13) (q26 : X.1[v13]? = some (.inl (0, n14))) (q27 : 20 < n14) : xm_E X P d co_X11_readNext 70 [some (.ref l0), some (.int l1), none, none] [] h none (xm_si (xm_si h12 v10 ((((36 : Int32) + ((2 : Int32) * ((xm_si h9 v7 (((36 : Int32) + ((2 : Int32) * (h6.1 v7 20))).toNatClampNeg) r9).1 v10 20))) + (1 : Int32)).toNatClampNeg) r12) v13 20 (((xm_si h12 v10 ((((36 : Int32) + ((2 : Int32) * ((xm_si h9 v7 (((36 : Int32) + ((2 : Int32) * (h6.1 v7 20))).toNatClampNeg) r9).1 v10 20))) + (1 : Int32)).toNatClampNeg) r12).1 v13 20) + (1 : Int32))) := by
  refine xm_E_s r_X11_readNext_70 rfl rfl ?_
  refine xm_E_cv [.ref l0] [] r_X11_readNext_71 rfl rfl (Nat.le_of_ble_eq_true rfl) (xm_rc q1 (by decide)) rfl q0 ?_
  refine xm_E_s r_X11_readNext_72 rfl rfl ?_
  refine xm_E_f q2 ?_
  refine xm_E_s r_X11_readNext_74 rfl rfl ?_
  refine xm_E_cv [.ref l0] [] r_X11_readNext_75 rfl rfl (Nat.le_of_ble_eq_true rfl) (xm_rc q1 (by decide)) rfl q3 ?_
  refine xm_E_s (ls1 := [some (.ref l0), some (.int l1), some (.int r1), none]) r_X11_readNext_76 rfl rfl ?_
  refine xm_E_s r_X11_readNext_77 rfl rfl ?_
  refine xm_E_s r_X11_readNext_78 rfl rfl ?_
  refine xm_E_s r_X11_readNext_79 rfl rfl ?_
  refine xm_E_t q4 ?_
  refine xm_E_s r_X11_readNext_99 rfl rfl ?_
  refine xm_E_s r_X11_readNext_100 rfl rfl ?_
  refine xm_E_cv [.ref l0, .ref 1054] [] r_X11_readNext_101 rfl rfl (Nat.le_of_ble_eq_true rfl) (xm_rc q1 (by decide)) rfl q5 ?_
  refine xm_E_s r_X11_readNext_102 rfl rfl ?_
  refine xm_E_t q6 ?_
  refine xm_E_s r_X11_readNext_106 rfl rfl ?_
  refine xm_E_s r_X11_readNext_107 rfl rfl ?_
  refine xm_E_cv [.ref l0, .ref 1056] [] r_X11_readNext_108 rfl rfl (Nat.le_of_ble_eq_true rfl) (xm_rc q1 (by decide)) rfl q7 ?_
  refine xm_E_s r_X11_readNext_109 rfl rfl ?_
  refine xm_E_t q8 ?_
  refine xm_E_s r_X11_readNext_129 rfl rfl ?_
  refine xm_E_s r_X11_readNext_130 rfl rfl ?_
  refine xm_E_cv [.ref l0, .ref 1058] [] r_X11_readNext_131 rfl rfl (Nat.le_of_ble_eq_true rfl) (xm_rc q1 (by decide)) rfl q9 ?_
  refine xm_E_s r_X11_readNext_132 rfl rfl ?_
  refine xm_E_t q10 ?_
  refine xm_E_s r_X11_readNext_136 rfl rfl ?_
  refine xm_E_s r_X11_readNext_137 rfl rfl ?_
  refine xm_E_cv [.ref l0, .ref 1060] [] r_X11_readNext_138 rfl rfl (Nat.le_of_ble_eq_true rfl) (xm_rc q1 (by decide)) rfl q11 ?_
  refine xm_E_s r_X11_readNext_139 rfl rfl ?_
  refine xm_E_t q12 ?_
  refine xm_E_s r_X11_readNext_149 rfl rfl ?_
  refine xm_E_s r_X11_readNext_150 rfl rfl ?_
  refine xm_E_cv [.ref l0, .ref 1062] [] r_X11_readNext_151 rfl rfl (Nat.le_of_ble_eq_true rfl) (xm_rc q1 (by decide)) rfl q13 ?_
  refine xm_E_s r_X11_readNext_152 rfl rfl ?_
  refine xm_E_f q14 ?_
  refine xm_E_s r_X11_readNext_153 rfl rfl ?_
  refine xm_E_s r_X11_readNext_154 rfl (xm_T_gr rfl q1 rfl rfl q15) ?_
  refine xm_E_s r_X11_readNext_155 rfl rfl ?_
  refine xm_E_s r_X11_readNext_156 rfl rfl ?_
  refine xm_E_s r_X11_readNext_157 rfl rfl ?_
  refine xm_E_s r_X11_readNext_158 rfl (xm_T_gr rfl q1 rfl rfl q15) ?_
  refine xm_E_s r_X11_readNext_159 rfl rfl ?_
  refine xm_E_s r_X11_readNext_160 rfl (xm_T_iald rfl q16 (by decide) (fun e => e.elim (fun e => absurd e (by decide)) (fun e => Nat.not_le.mpr q17 e))) ?_
  refine xm_E_s r_X11_readNext_161 rfl rfl ?_
  refine xm_E_s r_X11_readNext_162 rfl rfl ?_
  refine xm_E_s r_X11_readNext_163 rfl rfl ?_
  refine xm_E_s r_X11_readNext_164 rfl rfl ?_
  refine xm_E_s r_X11_readNext_165 rfl rfl ?_
  refine xm_E_cv [.ref l0, .int (1 : Int32), .int (99 : Int32)] [.int ((36 : Int32) + ((2 : Int32) * (h6.1 v7 20))), .ref v7] r_X11_readNext_166 rfl rfl (Nat.le_of_ble_eq_true rfl) (xm_rc q1 (by decide)) rfl q18 ?_
  refine xm_E_s r_X11_readNext_167 rfl (xm_T_asi rfl q16 q19) ?_
  refine xm_E_s r_X11_readNext_168 rfl rfl ?_
  refine xm_E_s r_X11_readNext_169 rfl (xm_T_gr rfl q1 rfl rfl q20) ?_
  refine xm_E_s r_X11_readNext_170 rfl rfl ?_
  refine xm_E_s r_X11_readNext_171 rfl rfl ?_
  refine xm_E_s r_X11_readNext_172 rfl rfl ?_
  refine xm_E_s r_X11_readNext_173 rfl (xm_T_gr rfl q1 rfl rfl q20) ?_
  refine xm_E_s r_X11_readNext_174 rfl rfl ?_
  refine xm_E_s r_X11_readNext_175 rfl (xm_T_iald rfl q21 (by decide) (fun e => e.elim (fun e => absurd e (by decide)) (fun e => Nat.not_le.mpr q22 e))) ?_
  refine xm_E_s r_X11_readNext_176 rfl rfl ?_
  refine xm_E_s r_X11_readNext_177 rfl rfl ?_
  refine xm_E_s r_X11_readNext_178 rfl rfl ?_
  refine xm_E_s r_X11_readNext_179 rfl rfl ?_
  refine xm_E_s r_X11_readNext_180 rfl rfl ?_
  refine xm_E_s r_X11_readNext_181 rfl rfl ?_
  refine xm_E_s r_X11_readNext_182 rfl rfl ?_
  refine xm_E_s r_X11_readNext_183 rfl rfl ?_
  refine xm_E_cv [.ref l0, .ref 1094, .int (0 : Int32), .int (999 : Int32)] [.int (((36 : Int32) + ((2 : Int32) * ((xm_si h9 v7 (((36 : Int32) + ((2 : Int32) * (h6.1 v7 20))).toNatClampNeg) r9).1 v10 20))) + (1 : Int32)), .ref v10] r_X11_readNext_184 rfl rfl (Nat.le_of_ble_eq_true rfl) (xm_rc q1 (by decide)) rfl q23 ?_
  refine xm_E_s r_X11_readNext_185 rfl (xm_T_asi rfl q21 q24) ?_
  refine xm_E_s r_X11_readNext_186 rfl rfl ?_
  refine xm_E_s r_X11_readNext_187 rfl (xm_T_gr rfl q1 rfl rfl q25) ?_
  refine xm_E_s r_X11_readNext_188 rfl rfl ?_
  refine xm_E_s r_X11_readNext_189 rfl rfl ?_
  refine xm_E_s r_X11_readNext_190 rfl (xm_T_iald rfl q26 (by decide) (fun e => e.elim (fun e => absurd e (by decide)) (fun e => Nat.not_le.mpr q27 e))) ?_
  refine xm_E_s r_X11_readNext_191 rfl rfl ?_
  refine xm_E_s r_X11_readNext_192 rfl rfl ?_
  refine xm_E_s r_X11_readNext_193 rfl (xm_T_asi rfl q26 (fun e => e.elim (fun e => absurd e (by decide)) (fun e => Nat.not_le.mpr q27 e))) ?_
  refine xm_E_s r_X11_readNext_194 rfl rfl ?_
  exact xm_E_ret r_X11_readNext_218 rfl
theorem p_X11_readNext_70_3 {X : xm_X} {P : List xm_M} {d : Nat} {h : xm_H} {l0 : Nat} {l1 : Int32} {h0 : xm_H} {r0 : Int32} {h1 : xm_H} {r1 : Int32} {h2 : xm_H} {r2 : Int32} {h3 : xm_H} {r3 : Int32} {h4 : xm_H} {r4 : Int32} {h5 : xm_H} {r5 : Int32} {v6 : Nat} {h7 : xm_H} {r7 : Int32} {n8 : Nat} (q0 : xm_V X P d 199 [.ref l0] h (some (.int r0)) h0) (q1 : X.1[l0]? = some (.inr 10)) (q2 : ¬ (r0 = (0 : Int32))) (q3 : xm_V X P d 209 [.ref l0] h0 (some (.int r1)) h1) (q4 : r1 = (-1 : Int32)) (q5 : xm_V X P d 203 [.ref l0, .ref 1054] h1 (some (.int r2)) h2) (q6 : r2 = (0 : Int32)) (q7 : xm_V X P d 203 [.ref l0, .ref 1056] h2 (some (.int r3)) h3) (q8 : r3 = (0 : Int32)) (q9 : xm_V X P d 203 [.ref l0, .ref 1058] h3 (some (.int r4)) h4) (q10 : r4 = (0 : Int32)) (q11 : xm_V X P d 203 [.ref l0, .ref 1060] h4 (some (.int r5)) h5) (q12 : ¬ (r5 = (0 : Int32))) (q13 : h5.2.2 l0 14 = some v6) (q14 : xm_V X P d 207 [.ref l0, .int (1 : Int32), .int (999 : Int32)] h5 (some (.int r7)) h7) (q15 : X.1[v6]? = some (.inl (0, n8))) (q16 : 18 < n8) : xm_E X P d co_X11_readNext 70 [some (.ref l0), some (.int l1), none, none] [] h none (xm_si h7 v6 18 r7) := by
  refine xm_E_s r_X11_readNext_70 rfl rfl ?_
  refine xm_E_cv [.ref l0] [] r_X11_readNext_71 rfl rfl (Nat.le_of_ble_eq_true rfl) (xm_rc q1 (by decide)) rfl q0 ?_
  refine xm_E_s r_X11_readNext_72 rfl rfl ?_
  refine xm_E_f q2 ?_
  refine xm_E_s r_X11_readNext_74 rfl rfl ?_
  refine xm_E_cv [.ref l0] [] r_X11_readNext_75 rfl rfl (Nat.le_of_ble_eq_true rfl) (xm_rc q1 (by decide)) rfl q3 ?_
  refine xm_E_s (ls1 := [some (.ref l0), some (.int l1), some (.int r1), none]) r_X11_readNext_76 rfl rfl ?_
  refine xm_E_s r_X11_readNext_77 rfl rfl ?_
  refine xm_E_s r_X11_readNext_78 rfl rfl ?_
  refine xm_E_s r_X11_readNext_79 rfl rfl ?_
  refine xm_E_t q4 ?_
  refine xm_E_s r_X11_readNext_99 rfl rfl ?_
  refine xm_E_s r_X11_readNext_100 rfl rfl ?_
  refine xm_E_cv [.ref l0, .ref 1054] [] r_X11_readNext_101 rfl rfl (Nat.le_of_ble_eq_true rfl) (xm_rc q1 (by decide)) rfl q5 ?_
  refine xm_E_s r_X11_readNext_102 rfl rfl ?_
  refine xm_E_t q6 ?_
  refine xm_E_s r_X11_readNext_106 rfl rfl ?_
  refine xm_E_s r_X11_readNext_107 rfl rfl ?_
  refine xm_E_cv [.ref l0, .ref 1056] [] r_X11_readNext_108 rfl rfl (Nat.le_of_ble_eq_true rfl) (xm_rc q1 (by decide)) rfl q7 ?_
  refine xm_E_s r_X11_readNext_109 rfl rfl ?_
  refine xm_E_t q8 ?_
  refine xm_E_s r_X11_readNext_129 rfl rfl ?_
  refine xm_E_s r_X11_readNext_130 rfl rfl ?_
  refine xm_E_cv [.ref l0, .ref 1058] [] r_X11_readNext_131 rfl rfl (Nat.le_of_ble_eq_true rfl) (xm_rc q1 (by decide)) rfl q9 ?_
  refine xm_E_s r_X11_readNext_132 rfl rfl ?_
  refine xm_E_t q10 ?_
  refine xm_E_s r_X11_readNext_136 rfl rfl ?_
  refine xm_E_s r_X11_readNext_137 rfl rfl ?_
  refine xm_E_cv [.ref l0, .ref 1060] [] r_X11_readNext_138 rfl rfl (Nat.le_of_ble_eq_true rfl) (xm_rc q1 (by decide)) rfl q11 ?_
  refine xm_E_s r_X11_readNext_139 rfl rfl ?_
  refine xm_E_f q12 ?_
  refine xm_E_s r_X11_readNext_140 rfl rfl ?_
  refine xm_E_s r_X11_readNext_141 rfl (xm_T_gr rfl q1 rfl rfl q13) ?_
  refine xm_E_s r_X11_readNext_142 rfl rfl ?_
  refine xm_E_s r_X11_readNext_143 rfl rfl ?_
  refine xm_E_s r_X11_readNext_144 rfl rfl ?_
  refine xm_E_s r_X11_readNext_145 rfl rfl ?_
  refine xm_E_cv [.ref l0, .int (1 : Int32), .int (999 : Int32)] [.int (18 : Int32), .ref v6] r_X11_readNext_146 rfl rfl (Nat.le_of_ble_eq_true rfl) (xm_rc q1 (by decide)) rfl q14 ?_
  refine xm_E_s r_X11_readNext_147 rfl (xm_T_asi rfl q15 (fun e => e.elim (fun e => absurd e (by decide)) (fun e => Nat.not_le.mpr q16 e))) ?_
  refine xm_E_s r_X11_readNext_148 rfl rfl ?_
  exact xm_E_ret r_X11_readNext_218 rfl
theorem p_X11_readNext_70_4 {X : xm_X} {P : List xm_M} {d : Nat} {h : xm_H} {l0 : Nat} {l1 : Int32} {h0 : xm_H} {r0 : Int32} {h1 : xm_H} {r1 : Int32} {h2 : xm_H} {r2 : Int32} {h3 : xm_H} {r3 : Int32} {h4 : xm_H} {r4 : Int32} {h5 : xm_H} (q0 : xm_V X P d 199 [.ref l0] h (some (.int r0)) h0) (q1 : X.1[l0]? = some (.inr 10)) (q2 : ¬ (r0 = (0 : Int32))) (q3 : xm_V X P d 209 [.ref l0] h0 (some (.int r1)) h1) (q4 : r1 = (-1 : Int32)) (q5 : xm_V X P d 203 [.ref l0, .ref 1054] h1 (some (.int r2)) h2) (q6 : r2 = (0 : Int32)) (q7 : xm_V X P d 203 [.ref l0, .ref 1056] h2 (some (.int r3)) h3) (q8 : r3 = (0 : Int32)) (q9 : xm_V X P d 203 [.ref l0, .ref 1058] h3 (some (.int r4)) h4) (q10 : ¬ (r4 = (0 : Int32))) (q11 : xm_V X P d 212 [.ref l0] h4 none h5) : xm_E X P d co_X11_readNext 70 [some (.ref l0), some (.int l1), none, none] [] h none h5 := by
  refine xm_E_s r_X11_readNext_70 rfl rfl ?_
  refine xm_E_cv [.ref l0] [] r_X11_readNext_71 rfl rfl (Nat.le_of_ble_eq_true rfl) (xm_rc q1 (by decide)) rfl q0 ?_
  refine xm_E_s r_X11_readNext_72 rfl rfl ?_
  refine xm_E_f q2 ?_
  refine xm_E_s r_X11_readNext_74 rfl rfl ?_
  refine xm_E_cv [.ref l0] [] r_X11_readNext_75 rfl rfl (Nat.le_of_ble_eq_true rfl) (xm_rc q1 (by decide)) rfl q3 ?_
  refine xm_E_s (ls1 := [some (.ref l0), some (.int l1), some (.int r1), none]) r_X11_readNext_76 rfl rfl ?_
  refine xm_E_s r_X11_readNext_77 rfl rfl ?_
  refine xm_E_s r_X11_readNext_78 rfl rfl ?_
  refine xm_E_s r_X11_readNext_79 rfl rfl ?_
  refine xm_E_t q4 ?_
  refine xm_E_s r_X11_readNext_99 rfl rfl ?_
  refine xm_E_s r_X11_readNext_100 rfl rfl ?_
  refine xm_E_cv [.ref l0, .ref 1054] [] r_X11_readNext_101 rfl rfl (Nat.le_of_ble_eq_true rfl) (xm_rc q1 (by decide)) rfl q5 ?_
  refine xm_E_s r_X11_readNext_102 rfl rfl ?_
  refine xm_E_t q6 ?_
  refine xm_E_s r_X11_readNext_106 rfl rfl ?_
  refine xm_E_s r_X11_readNext_107 rfl rfl ?_
  refine xm_E_cv [.ref l0, .ref 1056] [] r_X11_readNext_108 rfl rfl (Nat.le_of_ble_eq_true rfl) (xm_rc q1 (by decide)) rfl q7 ?_
  refine xm_E_s r_X11_readNext_109 rfl rfl ?_
  refine xm_E_t q8 ?_
  refine xm_E_s r_X11_readNext_129 rfl rfl ?_
  refine xm_E_s r_X11_readNext_130 rfl rfl ?_
  refine xm_E_cv [.ref l0, .ref 1058] [] r_X11_readNext_131 rfl rfl (Nat.le_of_ble_eq_true rfl) (xm_rc q1 (by decide)) rfl q9 ?_
  refine xm_E_s r_X11_readNext_132 rfl rfl ?_
  refine xm_E_f q10 ?_
  refine xm_E_s r_X11_readNext_133 rfl rfl ?_
  refine xm_E_cv [.ref l0] [] r_X11_readNext_134 rfl rfl (Nat.le_of_ble_eq_true rfl) (xm_rc q1 (by decide)) rfl q11 ?_
  refine xm_E_s r_X11_readNext_135 rfl rfl ?_
  exact xm_E_ret r_X11_readNext_218 rfl
theorem p_X11_readNext_70_5 {X : xm_X} {P : List xm_M} {d : Nat} {h : xm_H} {l0 : Nat} {l1 : Int32} {h0 : xm_H} {r0 : Int32} {h1 : xm_H} {r1 : Int32} {h2 : xm_H} {r2 : Int32} {h3 : xm_H} {r3 : Int32} {v4 : Nat} {h5 : xm_H} {r5 : Int32} {n6 : Nat} {v7 : Nat} {h8 : xm_H} {r8 : Int32} {n9 : Nat} (q0 : xm_V X P d 199 [.ref l0] h (some (.int r0)) h0) (q1 : X.1[l0]? = some (.inr 10)) (q2 : ¬ (r0 = (0 : Int32))) (q3 : xm_V X P d 209 [.ref l0] h0 (some (.int r1)) h1) (q4 : r1 = (-1 : Int32)) (q5 : xm_V X P d 203 [.ref l0, .ref 1054] h1 (some (.int r2)) h2) (q6 : r2 = (0 : Int32)) (q7 : xm_V X P d 203 [.ref l0, .ref 1056] h2 (some (.int r3)) h3) (q8 : ¬ (r3 = (0 : Int32))) (q9 : h3.2.2 l0 14 = some v4) (q10 : xm_V X P d 206 [.ref l0, .ref 1068, .int (0 : Int32), .int (50 : Int32)] h3 (some (.int r5)) h5) (q11 : X.1[v4]? = some (.inl (0, n6))) (q12 : 11 < n6) (q13 : (xm_si h5 v4 11 r5).2.2 l0 14 = some v7) (q14 : xm_V X P d 206 [.ref l0, .ref 1078, .int (0 : Int32), .int (50 : Int32)] (xm_si h5 v4 11 r5) (some (.int r8)) h8) (q15 : X.1[v7]? = some (.inl (0, n9))) (q16 : 12 < n9) : xm_E X P d co_X11_readNext 70 [some (.ref l0), some (.int l1), none, none] [] h none (xm_si h8 v7 12 r8) := by
  refine xm_E_s r_X11_readNext_70 rfl rfl ?_
  refine xm_E_cv [.ref l0] [] r_X11_readNext_71 rfl rfl (Nat.le_of_ble_eq_true rfl) (xm_rc q1 (by decide)) rfl q0 ?_
  refine xm_E_s r_X11_readNext_72 rfl rfl ?_
  refine xm_E_f q2 ?_
  refine xm_E_s r_X11_readNext_74 rfl rfl ?_
  refine xm_E_cv [.ref l0] [] r_X11_readNext_75 rfl rfl (Nat.le_of_ble_eq_true rfl) (xm_rc q1 (by decide)) rfl q3 ?_
  refine xm_E_s (ls1 := [some (.ref l0), some (.int l1), some (.int r1), none]) r_X11_readNext_76 rfl rfl ?_
  refine xm_E_s r_X11_readNext_77 rfl rfl ?_
  refine xm_E_s r_X11_readNext_78 rfl rfl ?_
  refine xm_E_s r_X11_readNext_79 rfl rfl ?_
  refine xm_E_t q4 ?_
  refine xm_E_s r_X11_readNext_99 rfl rfl ?_
  refine xm_E_s r_X11_readNext_100 rfl rfl ?_
  refine xm_E_cv [.ref l0, .ref 1054] [] r_X11_readNext_101 rfl rfl (Nat.le_of_ble_eq_true rfl) (xm_rc q1 (by decide)) rfl q5 ?_
  refine xm_E_s r_X11_readNext_102 rfl rfl ?_
  refine xm_E_t q6 ?_
  refine xm_E_s r_X11_readNext_106 rfl rfl ?_
  refine xm_E_s r_X11_readNext_107 rfl rfl ?_
  refine xm_E_cv [.ref l0, .ref 1056] [] r_X11_readNext_108 rfl rfl (Nat.le_of_ble_eq_true rfl) (xm_rc q1 (by decide)) rfl q7 ?_
  refine xm_E_s r_X11_readNext_109 rfl rfl ?_
  refine xm_E_f q8 ?_
  refine xm_E_s r_X11_readNext_110 rfl rfl ?_
  refine xm_E_s r_X11_readNext_111 rfl (xm_T_gr rfl q1 rfl rfl q9) ?_
  refine xm_E_s r_X11_readNext_112 rfl rfl ?_
  refine xm_E_s r_X11_readNext_113 rfl rfl ?_
  refine xm_E_s r_X11_readNext_114 rfl rfl ?_
  refine xm_E_s r_X11_readNext_115 rfl rfl ?_
  refine xm_E_s r_X11_readNext_116 rfl rfl ?_
  refine xm_E_cv [.ref l0, .ref 1068, .int (0 : Int32), .int (50 : Int32)] [.int (11 : Int32), .ref v4] r_X11_readNext_117 rfl rfl (Nat.le_of_ble_eq_true rfl) (xm_rc q1 (by decide)) rfl q10 ?_
  refine xm_E_s r_X11_readNext_118 rfl (xm_T_asi rfl q11 (fun e => e.elim (fun e => absurd e (by decide)) (fun e => Nat.not_le.mpr q12 e))) ?_
  refine xm_E_s r_X11_readNext_119 rfl rfl ?_
  refine xm_E_s r_X11_readNext_120 rfl (xm_T_gr rfl q1 rfl rfl q13) ?_
  refine xm_E_s r_X11_readNext_121 rfl rfl ?_
  refine xm_E_s r_X11_readNext_122 rfl rfl ?_
  refine xm_E_s r_X11_readNext_123 rfl rfl ?_
  refine xm_E_s r_X11_readNext_124 rfl rfl ?_
  refine xm_E_s r_X11_readNext_125 rfl rfl ?_
  refine xm_E_cv [.ref l0, .ref 1078, .int (0 : Int32), .int (50 : Int32)] [.int (12 : Int32), .ref v7] r_X11_readNext_126 rfl rfl (Nat.le_of_ble_eq_true rfl) (xm_rc q1 (by decide)) rfl q14 ?_
  refine xm_E_s r_X11_readNext_127 rfl (xm_T_asi rfl q15 (fun e => e.elim (fun e => absurd e (by decide)) (fun e => Nat.not_le.mpr q16 e))) ?_
  refine xm_E_s r_X11_readNext_128 rfl rfl ?_
  exact xm_E_ret r_X11_readNext_218 rfl
theorem p_X11_readNext_70_6 {X : xm_X} {P : List xm_M} {d : Nat} {h : xm_H} {l0 : Nat} {l1 : Int32} {h0 : xm_H} {r0 : Int32} {h1 : xm_H} {r1 : Int32} {h2 : xm_H} {r2 : Int32} {h3 : xm_H} (q0 : xm_V X P d 199 [.ref l0] h (some (.int r0)) h0) (q1 : X.1[l0]? = some (.inr 10)) (q2 : ¬ (r0 = (0 : Int32))) (q3 : xm_V X P d 209 [.ref l0] h0 (some (.int r1)) h1) (q4 : r1 = (-1 : Int32)) (q5 : xm_V X P d 203 [.ref l0, .ref 1054] h1 (some (.int r2)) h2) (q6 : ¬ (r2 = (0 : Int32))) (q7 : xm_V X P d 210 [.ref l0] h2 none h3) : xm_E X P d co_X11_readNext 70 [some (.ref l0), some (.int l1), none, none] [] h none h3 := by
  refine xm_E_s r_X11_readNext_70 rfl rfl ?_
  refine xm_E_cv [.ref l0] [] r_X11_readNext_71 rfl rfl (Nat.le_of_ble_eq_true rfl) (xm_rc q1 (by decide)) rfl q0 ?_
  refine xm_E_s r_X11_readNext_72 rfl rfl ?_
  refine xm_E_f q2 ?_
  refine xm_E_s r_X11_readNext_74 rfl rfl ?_
  refine xm_E_cv [.ref l0] [] r_X11_readNext_75 rfl rfl (Nat.le_of_ble_eq_true rfl) (xm_rc q1 (by decide)) rfl q3 ?_
  refine xm_E_s (ls1 := [some (.ref l0), some (.int l1), some (.int r1), none]) r_X11_readNext_76 rfl rfl ?_
  refine xm_E_s r_X11_readNext_77 rfl rfl ?_
  refine xm_E_s r_X11_readNext_78 rfl rfl ?_
  refine xm_E_s r_X11_readNext_79 rfl rfl ?_
  refine xm_E_t q4 ?_
  refine xm_E_s r_X11_readNext_99 rfl rfl ?_
  refine xm_E_s r_X11_readNext_100 rfl rfl ?_
  refine xm_E_cv [.ref l0, .ref 1054] [] r_X11_readNext_101 rfl rfl (Nat.le_of_ble_eq_true rfl) (xm_rc q1 (by decide)) rfl q5 ?_
  refine xm_E_s r_X11_readNext_102 rfl rfl ?_
  refine xm_E_f q6 ?_
  refine xm_E_s r_X11_readNext_103 rfl rfl ?_
  refine xm_E_cv [.ref l0] [] r_X11_readNext_104 rfl rfl (Nat.le_of_ble_eq_true rfl) (xm_rc q1 (by decide)) rfl q7 ?_
  refine xm_E_s r_X11_readNext_105 rfl rfl ?_
  exact xm_E_ret r_X11_readNext_218 rfl
theorem p_X11_readNext_70_7 {X : xm_X} {P : List xm_M} {d : Nat} {h : xm_H} {l0 : Nat} {l1 : Int32} {h0 : xm_H} {r0 : Int32} {h1 : xm_H} {r1 : Int32} {h2 : xm_H} {h3 : xm_H} {r3 : Int32} {h4 : xm_H} {r4 : Int32} (q0 : xm_V X P d 199 [.ref l0] h (some (.int r0)) h0) (q1 : X.1[l0]? = some (.inr 10)) (q2 : ¬ (r0 = (0 : Int32))) (q3 : xm_V X P d 209 [.ref l0] h0 (some (.int r1)) h1) (q4 : ¬ (r1 = (-1 : Int32))) (q5 : xm_V X P d 197 [.ref l0] h1 none h2) (q6 : xm_V X P d 206 [.ref l0, .ref 1066, .int (1 : Int32), .int (99 : Int32)] h2 (some (.int r3)) h3) (q7 : xm_V X P d 199 [.ref l0] h3 (some (.int r4)) h4) (q8 : r4 = (0 : Int32)) : xm_E X P d co_X11_readNext 70 [some (.ref l0), some (.int l1), none, none] [] h none h4 := by
  refine xm_E_s r_X11_readNext_70 rfl rfl ?_
  refine xm_E_cv [.ref l0] [] r_X11_readNext_71 rfl rfl (Nat.le_of_ble_eq_true rfl) (xm_rc q1 (by decide)) rfl q0 ?_
  refine xm_E_s r_X11_readNext_72 rfl rfl ?_
  refine xm_E_f q2 ?_
  refine xm_E_s r_X11_readNext_74 rfl rfl ?_
  refine xm_E_cv [.ref l0] [] r_X11_readNext_75 rfl rfl (Nat.le_of_ble_eq_true rfl) (xm_rc q1 (by decide)) rfl q3 ?_
  refine xm_E_s (ls1 := [some (.ref l0), some (.int l1), some (.int r1), none]) r_X11_readNext_76 rfl rfl ?_
  refine xm_E_s r_X11_readNext_77 rfl rfl ?_
  refine xm_E_s r_X11_readNext_78 rfl rfl ?_
  refine xm_E_s r_X11_readNext_79 rfl rfl ?_
  refine xm_E_f q4 ?_
  refine xm_E_s r_X11_readNext_80 rfl rfl ?_
  refine xm_E_cv [.ref l0] [] r_X11_readNext_81 rfl rfl (Nat.le_of_ble_eq_true rfl) (xm_rc q1 (by decide)) rfl q5 ?_
  refine xm_E_s r_X11_readNext_82 rfl rfl ?_
  refine xm_E_s r_X11_readNext_83 rfl rfl ?_
  refine xm_E_s r_X11_readNext_84 rfl rfl ?_
  refine xm_E_s r_X11_readNext_85 rfl rfl ?_
  refine xm_E_cv [.ref l0, .ref 1066, .int (1 : Int32), .int (99 : Int32)] [] r_X11_readNext_86 rfl rfl (Nat.le_of_ble_eq_true rfl) (xm_rc q1 (by decide)) rfl q6 ?_
  refine xm_E_s (ls1 := [some (.ref l0), some (.int l1), some (.int r1), some (.int r3)]) r_X11_readNext_87 rfl rfl ?_
  refine xm_E_s r_X11_readNext_88 rfl rfl ?_
  refine xm_E_cv [.ref l0] [] r_X11_readNext_89 rfl rfl (Nat.le_of_ble_eq_true rfl) (xm_rc q1 (by decide)) rfl q7 ?_
  refine xm_E_s r_X11_readNext_90 rfl rfl ?_
  refine xm_E_t q8 ?_
  refine xm_E_s r_X11_readNext_98 rfl rfl ?_
  exact xm_E_ret r_X11_readNext_218 rfl
theorem p_X11_readNext_70_8 {X : xm_X} {P : List xm_M} {d : Nat} {h : xm_H} {l0 : Nat} {l1 : Int32} {h0 : xm_H} {r0 : Int32} {h1 : xm_H} {r1 : Int32} {h2 : xm_H} {h3 : xm_H} {r3 : Int32} {h4 : xm_H} {r4 : Int32} {v5 : Nat} {n6 : Nat} (q0 : xm_V X P d 199 [.ref l0] h (some (.int r0)) h0) (q1 : X.1[l0]? = some (.inr 10)) (q2 : ¬ (r0 = (0 : Int32))) (q3 : xm_V X P d 209 [.ref l0] h0 (some (.int r1)) h1) (q4 : ¬ (r1 = (-1 : Int32))) (q5 : xm_V X P d 197 [.ref l0] h1 none h2) (q6 : xm_V X P d 206 [.ref l0, .ref 1066, .int (1 : Int32), .int (99 : Int32)] h2 (some (.int r3)) h3) (q7 : xm_V X P d 199 [.ref l0] h3 (some (.int r4)) h4) (q8 : ¬ (r4 = (0 : Int32))) (q9 : h4.2.2 l0 14 = some v5) (q10 : X.1[v5]? = some (.inl (0, n6))) (q11 : ¬ ((5 : Int32) + r1 < 0 ∨ n6 ≤ ((5 : Int32) + r1).toNatClampNeg)) : xm_E X P d co_X11_readNext 70 [some (.ref l0), some (.int l1), none, none] [] h none (xm_si h4 v5 (((5 : Int32) + r1).toNatClampNeg) r3) := by
  refine xm_E_s r_X11_readNext_70 rfl rfl ?_
  refine xm_E_cv [.ref l0] [] r_X11_readNext_71 rfl rfl (Nat.le_of_ble_eq_true rfl) (xm_rc q1 (by decide)) rfl q0 ?_
  refine xm_E_s r_X11_readNext_72 rfl rfl ?_
  refine xm_E_f q2 ?_
  refine xm_E_s r_X11_readNext_74 rfl rfl ?_
  refine xm_E_cv [.ref l0] [] r_X11_readNext_75 rfl rfl (Nat.le_of_ble_eq_true rfl) (xm_rc q1 (by decide)) rfl q3 ?_
  refine xm_E_s (ls1 := [some (.ref l0), some (.int l1), some (.int r1), none]) r_X11_readNext_76 rfl rfl ?_
  refine xm_E_s r_X11_readNext_77 rfl rfl ?_
  refine xm_E_s r_X11_readNext_78 rfl rfl ?_
  refine xm_E_s r_X11_readNext_79 rfl rfl ?_
  refine xm_E_f q4 ?_
  refine xm_E_s r_X11_readNext_80 rfl rfl ?_
  refine xm_E_cv [.ref l0] [] r_X11_readNext_81 rfl rfl (Nat.le_of_ble_eq_true rfl) (xm_rc q1 (by decide)) rfl q5 ?_
  refine xm_E_s r_X11_readNext_82 rfl rfl ?_
  refine xm_E_s r_X11_readNext_83 rfl rfl ?_
  refine xm_E_s r_X11_readNext_84 rfl rfl ?_
  refine xm_E_s r_X11_readNext_85 rfl rfl ?_
  refine xm_E_cv [.ref l0, .ref 1066, .int (1 : Int32), .int (99 : Int32)] [] r_X11_readNext_86 rfl rfl (Nat.le_of_ble_eq_true rfl) (xm_rc q1 (by decide)) rfl q6 ?_
  refine xm_E_s (ls1 := [some (.ref l0), some (.int l1), some (.int r1), some (.int r3)]) r_X11_readNext_87 rfl rfl ?_
  refine xm_E_s r_X11_readNext_88 rfl rfl ?_
  refine xm_E_cv [.ref l0] [] r_X11_readNext_89 rfl rfl (Nat.le_of_ble_eq_true rfl) (xm_rc q1 (by decide)) rfl q7 ?_
  refine xm_E_s r_X11_readNext_90 rfl rfl ?_
  refine xm_E_f q8 ?_
  refine xm_E_s r_X11_readNext_91 rfl rfl ?_
  refine xm_E_s r_X11_readNext_92 rfl (xm_T_gr rfl q1 rfl rfl q9) ?_
  refine xm_E_s r_X11_readNext_93 rfl rfl ?_
  refine xm_E_s r_X11_readNext_94 rfl rfl ?_
  refine xm_E_s r_X11_readNext_95 rfl rfl ?_
  refine xm_E_s r_X11_readNext_96 rfl rfl ?_
  refine xm_E_s r_X11_readNext_97 rfl (xm_T_asi rfl q10 q11) ?_
  refine xm_E_s r_X11_readNext_98 rfl rfl ?_
  exact xm_E_ret r_X11_readNext_218 rfl
theorem r_X11_moving_0 : co_X11_moving[0]? = some ((0, .aload_n 0, 0, 0, 0, 0, 0, 0, []) : xm_I) := rfl
theorem r_X11_moving_1 : co_X11_moving[1]? = some ((1, .ldc 179, 21, 0, 1042, 1, 0, 0, []) : xm_I) := rfl
theorem r_X11_moving_2 : co_X11_moving[2]? = some ((3, .invokevirtual 142, 1561, 204, 2, 10, 0, 0, []) : xm_I) := rfl
theorem r_X11_moving_3 : co_X11_moving[3]? = some ((6, .ifCond .eq 5, 0, 0, 6, 0, 0, 0, []) : xm_I) := rfl
theorem r_X11_moving_4 : co_X11_moving[4]? = some ((9, .iconst 0, 0, 0, 0, 0, 0, 0, []) : xm_I) := rfl
theorem r_X11_moving_5 : co_X11_moving[5]? = some ((10, .ireturn, 0, 0, 0, 0, 0, 0, []) : xm_I) := rfl
theorem r_X11_moving_6 : co_X11_moving[6]? = some ((11, .aload_n 0, 0, 0, 0, 0, 0, 0, []) : xm_I) := rfl
theorem r_X11_moving_7 : co_X11_moving[7]? = some ((12, .ldc 181, 22, 0, 1044, 1, 0, 0, []) : xm_I) := rfl
theorem r_X11_moving_8 : co_X11_moving[8]? = some ((14, .invokevirtual 142, 1561, 204, 2, 10, 0, 0, []) : xm_I) := rfl
theorem r_X11_moving_9 : co_X11_moving[9]? = some ((17, .ifCond .eq 5, 0, 0, 12, 0, 0, 0, []) : xm_I) := rfl
theorem r_X11_moving_10 : co_X11_moving[10]? = some ((20, .iconst 1, 0, 0, 0, 0, 1, 0, []) : xm_I) := rfl
theorem r_X11_moving_11 : co_X11_moving[11]? = some ((21, .ireturn, 0, 0, 0, 0, 0, 0, []) : xm_I) := rfl
theorem r_X11_moving_12 : co_X11_moving[12]? = some ((22, .aload_n 0, 0, 0, 0, 0, 0, 0, []) : xm_I) := rfl
theorem r_X11_moving_13 : co_X11_moving[13]? = some ((23, .ldc 183, 23, 0, 1046, 1, 0, 0, []) : xm_I) := rfl
theorem r_X11_moving_14 : co_X11_moving[14]? = some ((25, .invokevirtual 142, 1561, 204, 2, 10, 0, 0, []) : xm_I) := rfl
theorem r_X11_moving_15 : co_X11_moving[15]? = some ((28, .ifCond .eq 5, 0, 0, 18, 0, 0, 0, []) : xm_I) := rfl
theorem r_X11_moving_16 : co_X11_moving[16]? = some ((31, .iconst 2, 0, 0, 0, 0, 2, 0, []) : xm_I) := rfl
theorem r_X11_moving_17 : co_X11_moving[17]? = some ((32, .ireturn, 0, 0, 0, 0, 0, 0, []) : xm_I) := rfl
theorem r_X11_moving_18 : co_X11_moving[18]? = some ((33, .aload_n 0, 0, 0, 0, 0, 0, 0, []) : xm_I) := rfl
theorem r_X11_moving_19 : co_X11_moving[19]? = some ((34, .ldc 185, 24, 0, 1048, 1, 0, 0, []) : xm_I) := rfl
theorem r_X11_moving_20 : co_X11_moving[20]? = some ((36, .invokevirtual 142, 1561, 204, 2, 10, 0, 0, []) : xm_I) := rfl
theorem r_X11_moving_21 : co_X11_moving[21]? = some ((39, .ifCond .eq 5, 0, 0, 24, 0, 0, 0, []) : xm_I) := rfl
theorem r_X11_moving_22 : co_X11_moving[22]? = some ((42, .iconst 3, 0, 0, 0, 0, 3, 0, []) : xm_I) := rfl
theorem r_X11_moving_23 : co_X11_moving[23]? = some ((43, .ireturn, 0, 0, 0, 0, 0, 0, []) : xm_I) := rfl
theorem r_X11_moving_24 : co_X11_moving[24]? = some ((44, .aload_n 0, 0, 0, 0, 0, 0, 0, []) : xm_I) := rfl
theorem r_X11_moving_25 : co_X11_moving[25]? = some ((45, .ldc 187, 25, 0, 1050, 1, 0, 0, []) : xm_I) := rfl
theorem r_X11_moving_26 : co_X11_moving[26]? = some ((47, .invokevirtual 142, 1561, 204, 2, 10, 0, 0, []) : xm_I) := rfl
theorem r_X11_moving_27 : co_X11_moving[27]? = some ((50, .ifCond .eq 5, 0, 0, 30, 0, 0, 0, []) : xm_I) := rfl
theorem r_X11_moving_28 : co_X11_moving[28]? = some ((53, .iconst 4, 0, 0, 0, 0, 4, 0, []) : xm_I) := rfl
theorem r_X11_moving_29 : co_X11_moving[29]? = some ((54, .ireturn, 0, 0, 0, 0, 0, 0, []) : xm_I) := rfl
theorem r_X11_moving_30 : co_X11_moving[30]? = some ((55, .aload_n 0, 0, 0, 0, 0, 0, 0, []) : xm_I) := rfl
theorem r_X11_moving_31 : co_X11_moving[31]? = some ((56, .ldc 189, 26, 0, 1052, 1, 0, 0, []) : xm_I) := rfl
theorem r_X11_moving_32 : co_X11_moving[32]? = some ((58, .invokevirtual 142, 1561, 204, 2, 10, 0, 0, []) : xm_I) := rfl
theorem r_X11_moving_33 : co_X11_moving[33]? = some ((61, .ifCond .eq 7, 0, 0, 36, 0, 0, 0, []) : xm_I) := rfl
theorem r_X11_moving_34 : co_X11_moving[34]? = some ((64, .iconst 5, 0, 0, 0, 0, 5, 0, []) : xm_I) := rfl
theorem r_X11_moving_35 : co_X11_moving[35]? = some ((65, .goto 4, 0, 0, 37, 0, 0, 0, []) : xm_I) := rfl
theorem r_X11_moving_36 : co_X11_moving[36]? = some ((68, .iconst (-1), 0, 0, 0, 0, (-1), 0, []) : xm_I) := rfl
theorem r_X11_moving_37 : co_X11_moving[37]? = some ((69, .ireturn, 0, 0, 0, 0, 0, 0, []) : xm_I) := rfl
theorem p_X11_moving_0_0 {X : xm_X} {P : List xm_M} {d : Nat} {h : xm_H} {l0 : Nat} {h0 : xm_H} {r0 : Int32} {h1 : xm_H} {r1 : Int32} {h2 : xm_H} {r2 : Int32} {h3 : xm_H} {r3 : Int32} {h4 : xm_H} {r4 : Int32} {h5 : xm_H} {r5 : Int32} (q0 : xm_V X P d 204 [.ref l0, .ref 1042] h (some (.int r0)) h0) (q1 : X.1[l0]? = some (.inr 10)) (q2 : r0 = (0 : Int32)) (q3 : xm_V X P d 204 [.ref l0, .ref 1044] h0 (some (.int r1)) h1) (q4 : r1 = (0 : Int32)) (q5 : xm_V X P d 204 [.ref l0, .ref 1046] h1 (some (.int r2)) h2) (q6 : r2 = (0 : Int32)) (q7 : xm_V X P d 204 [.ref l0, .ref 1048] h2 (some (.int r3)) h3) (q8 : r3 = (0 : Int32)) (q9 : xm_V X P d 204 [.ref l0, .ref 1050] h3 (some (.int r4)) h4) (q10 : r4 = (0 : Int32)) (q11 : xm_V X P d 204 [.ref l0, .ref 1052] h4 (some (.int r5)) h5) (q12 : r5 = (0 : Int32)) : xm_E X P d co_X11_moving 0 [some (.ref l0)] [] h (some (.int (-1 : Int32))) h5 := by
  refine xm_E_s r_X11_moving_0 rfl rfl ?_
  refine xm_E_s r_X11_moving_1 rfl rfl ?_
  refine xm_E_cv [.ref l0, .ref 1042] [] r_X11_moving_2 rfl rfl (Nat.le_of_ble_eq_true rfl) (xm_rc q1 (by decide)) rfl q0 ?_
  refine xm_E_s r_X11_moving_3 rfl rfl ?_
  refine xm_E_t q2 ?_
  refine xm_E_s r_X11_moving_6 rfl rfl ?_
  refine xm_E_s r_X11_moving_7 rfl rfl ?_
  refine xm_E_cv [.ref l0, .ref 1044] [] r_X11_moving_8 rfl rfl (Nat.le_of_ble_eq_true rfl) (xm_rc q1 (by decide)) rfl q3 ?_
  refine xm_E_s r_X11_moving_9 rfl rfl ?_
  refine xm_E_t q4 ?_
  refine xm_E_s r_X11_moving_12 rfl rfl ?_
  refine xm_E_s r_X11_moving_13 rfl rfl ?_
  refine xm_E_cv [.ref l0, .ref 1046] [] r_X11_moving_14 rfl rfl (Nat.le_of_ble_eq_true rfl) (xm_rc q1 (by decide)) rfl q5 ?_
  refine xm_E_s r_X11_moving_15 rfl rfl ?_
  refine xm_E_t q6 ?_
  refine xm_E_s r_X11_moving_18 rfl rfl ?_
  refine xm_E_s r_X11_moving_19 rfl rfl ?_
  refine xm_E_cv [.ref l0, .ref 1048] [] r_X11_moving_20 rfl rfl (Nat.le_of_ble_eq_true rfl) (xm_rc q1 (by decide)) rfl q7 ?_
  refine xm_E_s r_X11_moving_21 rfl rfl ?_
  refine xm_E_t q8 ?_
  refine xm_E_s r_X11_moving_24 rfl rfl ?_
  refine xm_E_s r_X11_moving_25 rfl rfl ?_
  refine xm_E_cv [.ref l0, .ref 1050] [] r_X11_moving_26 rfl rfl (Nat.le_of_ble_eq_true rfl) (xm_rc q1 (by decide)) rfl q9 ?_
  refine xm_E_s r_X11_moving_27 rfl rfl ?_
  refine xm_E_t q10 ?_
  refine xm_E_s r_X11_moving_30 rfl rfl ?_
  refine xm_E_s r_X11_moving_31 rfl rfl ?_
  refine xm_E_cv [.ref l0, .ref 1052] [] r_X11_moving_32 rfl rfl (Nat.le_of_ble_eq_true rfl) (xm_rc q1 (by decide)) rfl q11 ?_
  refine xm_E_s r_X11_moving_33 rfl rfl ?_
  refine xm_E_t q12 ?_
  refine xm_E_s r_X11_moving_36 rfl rfl ?_
  exact xm_E_iret r_X11_moving_37 rfl rfl
theorem p_X11_moving_0_1 {X : xm_X} {P : List xm_M} {d : Nat} {h : xm_H} {l0 : Nat} {h0 : xm_H} {r0 : Int32} {h1 : xm_H} {r1 : Int32} {h2 : xm_H} {r2 : Int32} {h3 : xm_H} {r3 : Int32} {h4 : xm_H} {r4 : Int32} {h5 : xm_H} {r5 : Int32} (q0 : xm_V X P d 204 [.ref l0, .ref 1042] h (some (.int r0)) h0) (q1 : X.1[l0]? = some (.inr 10)) (q2 : r0 = (0 : Int32)) (q3 : xm_V X P d 204 [.ref l0, .ref 1044] h0 (some (.int r1)) h1) (q4 : r1 = (0 : Int32)) (q5 : xm_V X P d 204 [.ref l0, .ref 1046] h1 (some (.int r2)) h2) (q6 : r2 = (0 : Int32)) (q7 : xm_V X P d 204 [.ref l0, .ref 1048] h2 (some (.int r3)) h3) (q8 : r3 = (0 : Int32)) (q9 : xm_V X P d 204 [.ref l0, .ref 1050] h3 (some (.int r4)) h4) (q10 : r4 = (0 : Int32)) (q11 : xm_V X P d 204 [.ref l0, .ref 1052] h4 (some (.int r5)) h5) (q12 : ¬ (r5 = (0 : Int32))) : xm_E X P d co_X11_moving 0 [some (.ref l0)] [] h (some (.int (5 : Int32))) h5 := by
  refine xm_E_s r_X11_moving_0 rfl rfl ?_
  refine xm_E_s r_X11_moving_1 rfl rfl ?_
  refine xm_E_cv [.ref l0, .ref 1042] [] r_X11_moving_2 rfl rfl (Nat.le_of_ble_eq_true rfl) (xm_rc q1 (by decide)) rfl q0 ?_
  refine xm_E_s r_X11_moving_3 rfl rfl ?_
  refine xm_E_t q2 ?_
  refine xm_E_s r_X11_moving_6 rfl rfl ?_
  refine xm_E_s r_X11_moving_7 rfl rfl ?_
  refine xm_E_cv [.ref l0, .ref 1044] [] r_X11_moving_8 rfl rfl (Nat.le_of_ble_eq_true rfl) (xm_rc q1 (by decide)) rfl q3 ?_
  refine xm_E_s r_X11_moving_9 rfl rfl ?_
  refine xm_E_t q4 ?_
  refine xm_E_s r_X11_moving_12 rfl rfl ?_
  refine xm_E_s r_X11_moving_13 rfl rfl ?_
  refine xm_E_cv [.ref l0, .ref 1046] [] r_X11_moving_14 rfl rfl (Nat.le_of_ble_eq_true rfl) (xm_rc q1 (by decide)) rfl q5 ?_
  refine xm_E_s r_X11_moving_15 rfl rfl ?_
  refine xm_E_t q6 ?_
  refine xm_E_s r_X11_moving_18 rfl rfl ?_
  refine xm_E_s r_X11_moving_19 rfl rfl ?_
  refine xm_E_cv [.ref l0, .ref 1048] [] r_X11_moving_20 rfl rfl (Nat.le_of_ble_eq_true rfl) (xm_rc q1 (by decide)) rfl q7 ?_
  refine xm_E_s r_X11_moving_21 rfl rfl ?_
  refine xm_E_t q8 ?_
  refine xm_E_s r_X11_moving_24 rfl rfl ?_
  refine xm_E_s r_X11_moving_25 rfl rfl ?_
  refine xm_E_cv [.ref l0, .ref 1050] [] r_X11_moving_26 rfl rfl (Nat.le_of_ble_eq_true rfl) (xm_rc q1 (by decide)) rfl q9 ?_
  refine xm_E_s r_X11_moving_27 rfl rfl ?_
  refine xm_E_t q10 ?_
  refine xm_E_s r_X11_moving_30 rfl rfl ?_
  refine xm_E_s r_X11_moving_31 rfl rfl ?_
  refine xm_E_cv [.ref l0, .ref 1052] [] r_X11_moving_32 rfl rfl (Nat.le_of_ble_eq_true rfl) (xm_rc q1 (by decide)) rfl q11 ?_
  refine xm_E_s r_X11_moving_33 rfl rfl ?_
  refine xm_E_f q12 ?_
  refine xm_E_s r_X11_moving_34 rfl rfl ?_
  refine xm_E_s r_X11_moving_35 rfl rfl ?_
  exact xm_E_iret r_X11_moving_37 rfl rfl
theorem p_X11_moving_0_2 {X : xm_X} {P : List xm_M} {d : Nat} {h : xm_H} {l0 : Nat} {h0 : xm_H} {r0 : Int32} {h1 : xm_H} {r1 : Int32} {h2 : xm_H} {r2 : Int32} {h3 : xm_H} {r3 : Int32} {h4 : xm_H} {r4 : Int32} (q0 : xm_V X P d 204 [.ref l0, .ref 1042] h (some (.int r0)) h0) (q1 : X.1[l0]? = some (.inr 10)) (q2 : r0 = (0 : Int32)) (q3 : xm_V X P d 204 [.ref l0, .ref 1044] h0 (some (.int r1)) h1) (q4 : r1 = (0 : Int32)) (q5 : xm_V X P d 204 [.ref l0, .ref 1046] h1 (some (.int r2)) h2) (q6 : r2 = (0 : Int32)) (q7 : xm_V X P d 204 [.ref l0, .ref 1048] h2 (some (.int r3)) h3) (q8 : r3 = (0 : Int32)) (q9 : xm_V X P d 204 [.ref l0, .ref 1050] h3 (some (.int r4)) h4) (q10 : ¬ (r4 = (0 : Int32))) : xm_E X P d co_X11_moving 0 [some (.ref l0)] [] h (some (.int (4 : Int32))) h4 := by
  refine xm_E_s r_X11_moving_0 rfl rfl ?_
  refine xm_E_s r_X11_moving_1 rfl rfl ?_
  refine xm_E_cv [.ref l0, .ref 1042] [] r_X11_moving_2 rfl rfl (Nat.le_of_ble_eq_true rfl) (xm_rc q1 (by decide)) rfl q0 ?_
  refine xm_E_s r_X11_moving_3 rfl rfl ?_
  refine xm_E_t q2 ?_
  refine xm_E_s r_X11_moving_6 rfl rfl ?_
  refine xm_E_s r_X11_moving_7 rfl rfl ?_
  refine xm_E_cv [.ref l0, .ref 1044] [] r_X11_moving_8 rfl rfl (Nat.le_of_ble_eq_true rfl) (xm_rc q1 (by decide)) rfl q3 ?_
  refine xm_E_s r_X11_moving_9 rfl rfl ?_
  refine xm_E_t q4 ?_
  refine xm_E_s r_X11_moving_12 rfl rfl ?_
  refine xm_E_s r_X11_moving_13 rfl rfl ?_
  refine xm_E_cv [.ref l0, .ref 1046] [] r_X11_moving_14 rfl rfl (Nat.le_of_ble_eq_true rfl) (xm_rc q1 (by decide)) rfl q5 ?_
  refine xm_E_s r_X11_moving_15 rfl rfl ?_
  refine xm_E_t q6 ?_
  refine xm_E_s r_X11_moving_18 rfl rfl ?_
  refine xm_E_s r_X11_moving_19 rfl rfl ?_
  refine xm_E_cv [.ref l0, .ref 1048] [] r_X11_moving_20 rfl rfl (Nat.le_of_ble_eq_true rfl) (xm_rc q1 (by decide)) rfl q7 ?_
  refine xm_E_s r_X11_moving_21 rfl rfl ?_
  refine xm_E_t q8 ?_
  refine xm_E_s r_X11_moving_24 rfl rfl ?_
  refine xm_E_s r_X11_moving_25 rfl rfl ?_
  refine xm_E_cv [.ref l0, .ref 1050] [] r_X11_moving_26 rfl rfl (Nat.le_of_ble_eq_true rfl) (xm_rc q1 (by decide)) rfl q9 ?_
  refine xm_E_s r_X11_moving_27 rfl rfl ?_
  refine xm_E_f q10 ?_
  refine xm_E_s r_X11_moving_28 rfl rfl ?_
  exact xm_E_iret r_X11_moving_29 rfl rfl
theorem p_X11_moving_0_3 {X : xm_X} {P : List xm_M} {d : Nat} {h : xm_H} {l0 : Nat} {h0 : xm_H} {r0 : Int32} {h1 : xm_H} {r1 : Int32} {h2 : xm_H} {r2 : Int32} {h3 : xm_H} {r3 : Int32} (q0 : xm_V X P d 204 [.ref l0, .ref 1042] h (some (.int r0)) h0) (q1 : X.1[l0]? = some (.inr 10)) (q2 : r0 = (0 : Int32)) (q3 : xm_V X P d 204 [.ref l0, .ref 1044] h0 (some (.int r1)) h1) (q4 : r1 = (0 : Int32)) (q5 : xm_V X P d 204 [.ref l0, .ref 1046] h1 (some (.int r2)) h2) (q6 : r2 = (0 : Int32)) (q7 : xm_V X P d 204 [.ref l0, .ref 1048] h2 (some (.int r3)) h3) (q8 : ¬ (r3 = (0 : Int32))) : xm_E X P d co_X11_moving 0 [some (.ref l0)] [] h (some (.int (3 : Int32))) h3 := by
  refine xm_E_s r_X11_moving_0 rfl rfl ?_
  refine xm_E_s r_X11_moving_1 rfl rfl ?_
  refine xm_E_cv [.ref l0, .ref 1042] [] r_X11_moving_2 rfl rfl (Nat.le_of_ble_eq_true rfl) (xm_rc q1 (by decide)) rfl q0 ?_
  refine xm_E_s r_X11_moving_3 rfl rfl ?_
  refine xm_E_t q2 ?_
  refine xm_E_s r_X11_moving_6 rfl rfl ?_
  refine xm_E_s r_X11_moving_7 rfl rfl ?_
  refine xm_E_cv [.ref l0, .ref 1044] [] r_X11_moving_8 rfl rfl (Nat.le_of_ble_eq_true rfl) (xm_rc q1 (by decide)) rfl q3 ?_
  refine xm_E_s r_X11_moving_9 rfl rfl ?_
  refine xm_E_t q4 ?_
  refine xm_E_s r_X11_moving_12 rfl rfl ?_
  refine xm_E_s r_X11_moving_13 rfl rfl ?_
  refine xm_E_cv [.ref l0, .ref 1046] [] r_X11_moving_14 rfl rfl (Nat.le_of_ble_eq_true rfl) (xm_rc q1 (by decide)) rfl q5 ?_
  refine xm_E_s r_X11_moving_15 rfl rfl ?_
  refine xm_E_t q6 ?_
  refine xm_E_s r_X11_moving_18 rfl rfl ?_
  refine xm_E_s r_X11_moving_19 rfl rfl ?_
  refine xm_E_cv [.ref l0, .ref 1048] [] r_X11_moving_20 rfl rfl (Nat.le_of_ble_eq_true rfl) (xm_rc q1 (by decide)) rfl q7 ?_
  refine xm_E_s r_X11_moving_21 rfl rfl ?_
  refine xm_E_f q8 ?_
  refine xm_E_s r_X11_moving_22 rfl rfl ?_
  exact xm_E_iret r_X11_moving_23 rfl rfl
theorem p_X11_moving_0_4 {X : xm_X} {P : List xm_M} {d : Nat} {h : xm_H} {l0 : Nat} {h0 : xm_H} {r0 : Int32} {h1 : xm_H} {r1 : Int32} {h2 : xm_H} {r2 : Int32} (q0 : xm_V X P d 204 [.ref l0, .ref 1042] h (some (.int r0)) h0) (q1 : X.1[l0]? = some (.inr 10)) (q2 : r0 = (0 : Int32)) (q3 : xm_V X P d 204 [.ref l0, .ref 1044] h0 (some (.int r1)) h1) (q4 : r1 = (0 : Int32)) (q5 : xm_V X P d 204 [.ref l0, .ref 1046] h1 (some (.int r2)) h2) (q6 : ¬ (r2 = (0 : Int32))) : xm_E X P d co_X11_moving 0 [some (.ref l0)] [] h (some (.int (2 : Int32))) h2 := by
  refine xm_E_s r_X11_moving_0 rfl rfl ?_
  refine xm_E_s r_X11_moving_1 rfl rfl ?_
  refine xm_E_cv [.ref l0, .ref 1042] [] r_X11_moving_2 rfl rfl (Nat.le_of_ble_eq_true rfl) (xm_rc q1 (by decide)) rfl q0 ?_
  refine xm_E_s r_X11_moving_3 rfl rfl ?_
  refine xm_E_t q2 ?_
  refine xm_E_s r_X11_moving_6 rfl rfl ?_
  refine xm_E_s r_X11_moving_7 rfl rfl ?_
  refine xm_E_cv [.ref l0, .ref 1044] [] r_X11_moving_8 rfl rfl (Nat.le_of_ble_eq_true rfl) (xm_rc q1 (by decide)) rfl q3 ?_
  refine xm_E_s r_X11_moving_9 rfl rfl ?_
  refine xm_E_t q4 ?_
  refine xm_E_s r_X11_moving_12 rfl rfl ?_
  refine xm_E_s r_X11_moving_13 rfl rfl ?_
  refine xm_E_cv [.ref l0, .ref 1046] [] r_X11_moving_14 rfl rfl (Nat.le_of_ble_eq_true rfl) (xm_rc q1 (by decide)) rfl q5 ?_
  refine xm_E_s r_X11_moving_15 rfl rfl ?_
  refine xm_E_f q6 ?_
  refine xm_E_s r_X11_moving_16 rfl rfl ?_
  exact xm_E_iret r_X11_moving_17 rfl rfl
theorem p_X11_moving_0_5 {X : xm_X} {P : List xm_M} {d : Nat} {h : xm_H} {l0 : Nat} {h0 : xm_H} {r0 : Int32} {h1 : xm_H} {r1 : Int32} (q0 : xm_V X P d 204 [.ref l0, .ref 1042] h (some (.int r0)) h0) (q1 : X.1[l0]? = some (.inr 10)) (q2 : r0 = (0 : Int32)) (q3 : xm_V X P d 204 [.ref l0, .ref 1044] h0 (some (.int r1)) h1) (q4 : ¬ (r1 = (0 : Int32))) : xm_E X P d co_X11_moving 0 [some (.ref l0)] [] h (some (.int (1 : Int32))) h1 := by
  refine xm_E_s r_X11_moving_0 rfl rfl ?_
  refine xm_E_s r_X11_moving_1 rfl rfl ?_
  refine xm_E_cv [.ref l0, .ref 1042] [] r_X11_moving_2 rfl rfl (Nat.le_of_ble_eq_true rfl) (xm_rc q1 (by decide)) rfl q0 ?_
  refine xm_E_s r_X11_moving_3 rfl rfl ?_
  refine xm_E_t q2 ?_
  refine xm_E_s r_X11_moving_6 rfl rfl ?_
  refine xm_E_s r_X11_moving_7 rfl rfl ?_
  refine xm_E_cv [.ref l0, .ref 1044] [] r_X11_moving_8 rfl rfl (Nat.le_of_ble_eq_true rfl) (xm_rc q1 (by decide)) rfl q3 ?_
  refine xm_E_s r_X11_moving_9 rfl rfl ?_
  refine xm_E_f q4 ?_
  refine xm_E_s r_X11_moving_10 rfl rfl ?_
  exact xm_E_iret r_X11_moving_11 rfl rfl
theorem p_X11_moving_0_6 {X : xm_X} {P : List xm_M} {d : Nat} {h : xm_H} {l0 : Nat} {h0 : xm_H} {r0 : Int32} (q0 : xm_V X P d 204 [.ref l0, .ref 1042] h (some (.int r0)) h0) (q1 : X.1[l0]? = some (.inr 10)) (q2 : ¬ (r0 = (0 : Int32))) : xm_E X P d co_X11_moving 0 [some (.ref l0)] [] h (some (.int (0 : Int32))) h0 := by
  refine xm_E_s r_X11_moving_0 rfl rfl ?_
  refine xm_E_s r_X11_moving_1 rfl rfl ?_
  refine xm_E_cv [.ref l0, .ref 1042] [] r_X11_moving_2 rfl rfl (Nat.le_of_ble_eq_true rfl) (xm_rc q1 (by decide)) rfl q0 ?_
  refine xm_E_s r_X11_moving_3 rfl rfl ?_
  refine xm_E_f q2 ?_
  refine xm_E_s r_X11_moving_4 rfl rfl ?_
  exact xm_E_iret r_X11_moving_5 rfl rfl
theorem r_X11_readCall_0 : co_X11_readCall[0]? = some ((0, .aload_n 0, 0, 0, 0, 0, 0, 0, []) : xm_I) := rfl
theorem r_X11_readCall_1 : co_X11_readCall[1]? = some ((1, .ldc 199, 34, 0, 1068, 1, 0, 0, []) : xm_I) := rfl
theorem r_X11_readCall_2 : co_X11_readCall[2]? = some ((3, .invokevirtual 156, 1553, 202, 2, 10, 0, 0, []) : xm_I) := rfl
theorem r_X11_readCall_3 : co_X11_readCall[3]? = some ((6, .aload_n 0, 0, 0, 0, 0, 0, 0, []) : xm_I) := rfl
theorem r_X11_readCall_4 : co_X11_readCall[4]? = some ((7, .invokevirtual 201, 1610, 211, 1, 10, 0, 0, []) : xm_I) := rfl
theorem r_X11_readCall_5 : co_X11_readCall[5]? = some ((10, .istore_n 1, 0, 0, 0, 0, 0, 0, []) : xm_I) := rfl
theorem r_X11_readCall_6 : co_X11_readCall[6]? = some ((11, .aload_n 0, 0, 0, 0, 0, 0, 0, []) : xm_I) := rfl
theorem r_X11_readCall_7 : co_X11_readCall[7]? = some ((12, .ldc 204, 39, 0, 1078, 1, 0, 0, []) : xm_I) := rfl
theorem r_X11_readCall_8 : co_X11_readCall[8]? = some ((14, .invokevirtual 156, 1553, 202, 2, 10, 0, 0, []) : xm_I) := rfl
theorem r_X11_readCall_9 : co_X11_readCall[9]? = some ((17, .aload_n 0, 0, 0, 0, 0, 0, 0, []) : xm_I) := rfl
theorem r_X11_readCall_10 : co_X11_readCall[10]? = some ((18, .invokevirtual 201, 1610, 211, 1, 10, 0, 0, []) : xm_I) := rfl
theorem r_X11_readCall_11 : co_X11_readCall[11]? = some ((21, .istore_n 2, 0, 0, 0, 0, 0, 0, []) : xm_I) := rfl
theorem r_X11_readCall_12 : co_X11_readCall[12]? = some ((22, .aload_n 0, 0, 0, 0, 0, 0, 0, []) : xm_I) := rfl
theorem r_X11_readCall_13 : co_X11_readCall[13]? = some ((23, .invokevirtual 128, 1540, 199, 1, 10, 0, 0, []) : xm_I) := rfl
theorem r_X11_readCall_14 : co_X11_readCall[14]? = some ((26, .ifCond .ne 4, 0, 0, 16, 0, 0, 0, []) : xm_I) := rfl
theorem r_X11_readCall_15 : co_X11_readCall[15]? = some ((29, .return_, 0, 0, 0, 0, 0, 0, []) : xm_I) := rfl
theorem r_X11_readCall_16 : co_X11_readCall[16]? = some ((30, .aload_n 0, 0, 0, 0, 0, 0, 0, []) : xm_I) := rfl
theorem r_X11_readCall_17 : co_X11_readCall[17]? = some ((31, .getfield 31, 1394, 10, 14, 2, 0, 0, []) : xm_I) := rfl
theorem r_X11_readCall_18 : co_X11_readCall[18]? = some ((34, .bipush 24, 0, 0, 0, 0, 24, 0, []) : xm_I) := rfl
theorem r_X11_readCall_19 : co_X11_readCall[19]? = some ((36, .iconst 2, 0, 0, 0, 0, 2, 0, []) : xm_I) := rfl
theorem r_X11_readCall_20 : co_X11_readCall[20]? = some ((37, .aload_n 0, 0, 0, 0, 0, 0, 0, []) : xm_I) := rfl
theorem r_X11_readCall_21 : co_X11_readCall[21]? = some ((38, .getfield 31, 1394, 10, 14, 2, 0, 0, []) : xm_I) := rfl
theorem r_X11_readCall_22 : co_X11_readCall[22]? = some ((41, .bipush 19, 0, 0, 0, 0, 19, 0, []) : xm_I) := rfl
theorem r_X11_readCall_23 : co_X11_readCall[23]? = some ((43, .iaload, 0, 0, 0, 0, 0, 0, []) : xm_I) := rfl
theorem r_X11_readCall_24 : co_X11_readCall[24]? = some ((44, .imul, 0, 0, 0, 0, 0, 0, []) : xm_I) := rfl
theorem r_X11_readCall_25 : co_X11_readCall[25]? = some ((45, .iadd, 0, 0, 0, 0, 0, 0, []) : xm_I) := rfl
theorem r_X11_readCall_26 : co_X11_readCall[26]? = some ((46, .iload_n 1, 0, 0, 0, 0, 0, 0, []) : xm_I) := rfl
theorem r_X11_readCall_27 : co_X11_readCall[27]? = some ((47, .iastore, 0, 0, 0, 0, 0, 0, []) : xm_I) := rfl
theorem r_X11_readCall_28 : co_X11_readCall[28]? = some ((48, .aload_n 0, 0, 0, 0, 0, 0, 0, []) : xm_I) := rfl
theorem r_X11_readCall_29 : co_X11_readCall[29]? = some ((49, .getfield 31, 1394, 10, 14, 2, 0, 0, []) : xm_I) := rfl
theorem r_X11_readCall_30 : co_X11_readCall[30]? = some ((52, .bipush 24, 0, 0, 0, 0, 24, 0, []) : xm_I) := rfl
theorem r_X11_readCall_31 : co_X11_readCall[31]? = some ((54, .iconst 2, 0, 0, 0, 0, 2, 0, []) : xm_I) := rfl
theorem r_X11_readCall_32 : co_X11_readCall[32]? = some ((55, .aload_n 0, 0, 0, 0, 0, 0, 0, []) : xm_I) := rfl
theorem r_X11_readCall_33 : co_X11_readCall[33]? = some ((56, .getfield 31, 1394, 10, 14, 2, 0, 0, []) : xm_I) := rfl
theorem r_X11_readCall_34 : co_X11_readCall[34]? = some ((59, .bipush 19, 0, 0, 0, 0, 19, 0, []) : xm_I) := rfl
theorem r_X11_readCall_35 : co_X11_readCall[35]? = some ((61, .iaload, 0, 0, 0, 0, 0, 0, []) : xm_I) := rfl
theorem r_X11_readCall_36 : co_X11_readCall[36]? = some ((62, .imul, 0, 0, 0, 0, 0, 0, []) : xm_I) := rfl
theorem r_X11_readCall_37 : co_X11_readCall[37]? = some ((63, .iadd, 0, 0, 0, 0, 0, 0, []) : xm_I) := rfl
theorem r_X11_readCall_38 : co_X11_readCall[38]? = some ((64, .iconst 1, 0, 0, 0, 0, 1, 0, []) : xm_I) := rfl
theorem r_X11_readCall_39 : co_X11_readCall[39]? = some ((65, .iadd, 0, 0, 0, 0, 0, 0, []) : xm_I) := rfl
theorem r_X11_readCall_40 : co_X11_readCall[40]? = some ((66, .iload_n 2, 0, 0, 0, 0, 0, 0, []) : xm_I) := rfl
theorem r_X11_readCall_41 : co_X11_readCall[41]? = some ((67, .iastore, 0, 0, 0, 0, 0, 0, []) : xm_I) := rfl
theorem r_X11_readCall_42 : co_X11_readCall[42]? = some ((68, .aload_n 0, 0, 0, 0, 0, 0, 0, []) : xm_I) := rfl
theorem r_X11_readCall_43 : co_X11_readCall[43]? = some ((69, .getfield 31, 1394, 10, 14, 2, 0, 0, []) : xm_I) := rfl
theorem r_X11_readCall_44 : co_X11_readCall[44]? = some ((72, .bipush 19, 0, 0, 0, 0, 19, 0, []) : xm_I) := rfl
theorem r_X11_readCall_45 : co_X11_readCall[45]? = some ((74, .dup2, 0, 0, 0, 0, 0, 0, []) : xm_I) := rfl
theorem r_X11_readCall_46 : co_X11_readCall[46]? = some ((75, .iaload, 0, 0, 0, 0, 0, 0, []) : xm_I) := rfl
theorem r_X11_readCall_47 : co_X11_readCall[47]? = some ((76, .iconst 1, 0, 0, 0, 0, 1, 0, []) : xm_I) := rfl
theorem r_X11_readCall_48 : co_X11_readCall[48]? = some ((77, .iadd, 0, 0, 0, 0, 0, 0, []) : xm_I) := rfl
theorem r_X11_readCall_49 : co_X11_readCall[49]? = some ((78, .iastore, 0, 0, 0, 0, 0, 0, []) : xm_I) := rfl
theorem r_X11_readCall_50 : co_X11_readCall[50]? = some ((79, .return_, 0, 0, 0, 0, 0, 0, []) : xm_I) := rfl
theorem p_X11_readCall_0_0 {X : xm_X} {P : List xm_M} {d : Nat} {h : xm_H} {l0 : Nat} {h0 : xm_H} {h1 : xm_H} {r1 : Int32} {h2 : xm_H} {h3 : xm_H} {r3 : Int32} {h4 : xm_H} {r4 : Int32} (q0 : xm_V X P d 202 [.ref l0, .ref 1068] h none h0) (q1 : X.1[l0]? = some (.inr 10)) (q2 : xm_V X P d 211 [.ref l0] h0 (some (.int r1)) h1) (q3 : xm_V X P d 202 [.ref l0, .ref 1078] h1 none h2) (q4 : xm_V X P d 211 [.ref l0] h2 (some (.int r3)) h3) (q5 : xm_V X P d 199 [.ref l0] h3 (some (.int r4)) h4) (q6 : r4 = (0 : Int32)) : xm_E X P d co_X11_readCall 0 [some (.ref l0), none, none] [] h none h4 := by
  refine xm_E_s r_X11_readCall_0 rfl rfl ?_
  refine xm_E_s r_X11_readCall_1 rfl rfl ?_
  refine xm_E_cv [.ref l0, .ref 1068] [] r_X11_readCall_2 rfl rfl (Nat.le_of_ble_eq_true rfl) (xm_rc q1 (by decide)) rfl q0 ?_
  refine xm_E_s r_X11_readCall_3 rfl rfl ?_
  refine xm_E_cv [.ref l0] [] r_X11_readCall_4 rfl rfl (Nat.le_of_ble_eq_true rfl) (xm_rc q1 (by decide)) rfl q2 ?_
  refine xm_E_s (ls1 := [some (.ref l0), some (.int r1), none]) r_X11_readCall_5 rfl rfl ?_
  refine xm_E_s r_X11_readCall_6 rfl rfl ?_
  refine xm_E_s r_X11_readCall_7 rfl rfl ?_
  refine xm_E_cv [.ref l0, .ref 1078] [] r_X11_readCall_8 rfl rfl (Nat.le_of_ble_eq_true rfl) (xm_rc q1 (by decide)) rfl q3 ?_
  refine xm_E_s r_X11_readCall_9 rfl rfl ?_
  refine xm_E_cv [.ref l0] [] r_X11_readCall_10 rfl rfl (Nat.le_of_ble_eq_true rfl) (xm_rc q1 (by decide)) rfl q4 ?_
  refine xm_E_s (ls1 := [some (.ref l0), some (.int r1), some (.int r3)]) r_X11_readCall_11 rfl rfl ?_
  refine xm_E_s r_X11_readCall_12 rfl rfl ?_
  refine xm_E_cv [.ref l0] [] r_X11_readCall_13 rfl rfl (Nat.le_of_ble_eq_true rfl) (xm_rc q1 (by decide)) rfl q5 ?_
  refine xm_E_s r_X11_readCall_14 rfl rfl ?_
  refine xm_E_t q6 ?_
  exact xm_E_ret r_X11_readCall_15 rfl
theorem p_X11_readCall_0_1 {X : xm_X} {P : List xm_M} {d : Nat} {h : xm_H} {l0 : Nat} {h0 : xm_H} {h1 : xm_H} {r1 : Int32} {h2 : xm_H} {h3 : xm_H} {r3 : Int32} {h4 : xm_H} {r4 : Int32} {v5 : Nat} {n6 : Nat} {v7 : Nat} {n8 : Nat} {v9 : Nat} {n10 : Nat} (q0 : xm_V X P d 202 [.ref l0, .ref 1068] h none h0) (q1 : X.1[l0]? = some (.inr 10)) (q2 : xm_V X P d 211 [.ref l0] h0 (some (.int r1)) h1) (q3 : xm_V X P d 202 [.ref l0, .ref 1078] h1 none h2) (q4 : xm_V X P d 211 [.ref l0] h2 (some (.int r3)) h3) (q5 : xm_V X P d 199 [.ref l0] h3 (some (.int r4)) h4) (q6 : ¬ (r4 = (0 : Int32))) (q7 : h4.2.2 l0 14 = some v5) (q8 : X.1[v5]? = some (.inl (0, n6))) (q9 : 19 < n6) (q10 : ¬ ((24 : Int32) + ((2 : Int32) * (h4.1 v5 19)) < 0 ∨ n6 ≤ ((24 : Int32) + ((2 : Int32) * (h4.1 v5 19))).toNatClampNeg)) (q11 : (xm_si h4 v5 (((24 : Int32) + ((2 : Int32) * (h4.1 v5 19))).toNatClampNeg) r1).2.2 l0 14 = some v7) (q12 : X.1[v7]? = some (.inl (0, n8))) (q13 : 19 < n8) (q14 : ¬ (((24 : Int32) + ((2 : Int32) * ((xm_si h4 v5 (((24 : Int32) + ((2 : Int32) * (h4.1 v5 19))).toNatClampNeg) r1).1 v7 19))) + (1 : Int32) < 0 ∨ n8 ≤ (((24 : Int32) + ((2 : Int32) * ((xm_si h4 v5 (((24 : Int32) + ((2 : Int32) * (h4.1 v5 19))).toNatClampNeg) r1).1 v7 19))) + (1 : Int32)).toNatClampNeg)) (q15 : (xm_si (xm_si h4 v5 (((24 : Int32) + ((2 : Int32) * (h4.1 v5 19))).toNatClampNeg) r1) v7 ((((24 : Int32) + ((2 : Int32) * ((xm_si h4 v5 (((24 : Int32) + ((2 : Int32) * (h4.1 v5 19))).toNatClampNeg) r1).1 v7 19))) + (1 : Int32)).toNatClampNeg) r3).2.2 l0 14 = some v9) (q16 : X.1[v9]? = some (.inl (0, n10))) (q17 : 19 < n10) : xm_E X P d co_X11_readCall 0 [some (.ref l0), none, none] [] h none (xm_si (xm_si (xm_si h4 v5 (((24 : Int32) + ((2 : Int32) * (h4.1 v5 19))).toNatClampNeg) r1) v7 ((((24 : Int32) + ((2 : Int32) * ((xm_si h4 v5 (((24 : Int32) + ((2 : Int32) * (h4.1 v5 19))).toNatClampNeg) r1).1 v7 19))) + (1 : Int32)).toNatClampNeg) r3) v9 19 (((xm_si (xm_si h4 v5 (((24 : Int32) + ((2 : Int32) * (h4.1 v5 19))).toNatClampNeg) r1) v7 ((((24 : Int32) + ((2 : Int32) * ((xm_si h4 v5 (((24 : Int32) + ((2 : Int32) * (h4.1 v5 19))).toNatClampNeg) r1).1 v7 19))) + (1 : Int32)).toNatClampNeg) r3).1 v9 19) + (1 : Int32))) := by
  refine xm_E_s r_X11_readCall_0 rfl rfl ?_
  refine xm_E_s r_X11_readCall_1 rfl rfl ?_
  refine xm_E_cv [.ref l0, .ref 1068] [] r_X11_readCall_2 rfl rfl (Nat.le_of_ble_eq_true rfl) (xm_rc q1 (by decide)) rfl q0 ?_
  refine xm_E_s r_X11_readCall_3 rfl rfl ?_
  refine xm_E_cv [.ref l0] [] r_X11_readCall_4 rfl rfl (Nat.le_of_ble_eq_true rfl) (xm_rc q1 (by decide)) rfl q2 ?_
  refine xm_E_s (ls1 := [some (.ref l0), some (.int r1), none]) r_X11_readCall_5 rfl rfl ?_
  refine xm_E_s r_X11_readCall_6 rfl rfl ?_
  refine xm_E_s r_X11_readCall_7 rfl rfl ?_
  refine xm_E_cv [.ref l0, .ref 1078] [] r_X11_readCall_8 rfl rfl (Nat.le_of_ble_eq_true rfl) (xm_rc q1 (by decide)) rfl q3 ?_
  refine xm_E_s r_X11_readCall_9 rfl rfl ?_
  refine xm_E_cv [.ref l0] [] r_X11_readCall_10 rfl rfl (Nat.le_of_ble_eq_true rfl) (xm_rc q1 (by decide)) rfl q4 ?_
  refine xm_E_s (ls1 := [some (.ref l0), some (.int r1), some (.int r3)]) r_X11_readCall_11 rfl rfl ?_
  refine xm_E_s r_X11_readCall_12 rfl rfl ?_
  refine xm_E_cv [.ref l0] [] r_X11_readCall_13 rfl rfl (Nat.le_of_ble_eq_true rfl) (xm_rc q1 (by decide)) rfl q5 ?_
  refine xm_E_s r_X11_readCall_14 rfl rfl ?_
  refine xm_E_f q6 ?_
  refine xm_E_s r_X11_readCall_16 rfl rfl ?_
  refine xm_E_s r_X11_readCall_17 rfl (xm_T_gr rfl q1 rfl rfl q7) ?_
  refine xm_E_s r_X11_readCall_18 rfl rfl ?_
  refine xm_E_s r_X11_readCall_19 rfl rfl ?_
  refine xm_E_s r_X11_readCall_20 rfl rfl ?_
  refine xm_E_s r_X11_readCall_21 rfl (xm_T_gr rfl q1 rfl rfl q7) ?_
  refine xm_E_s r_X11_readCall_22 rfl rfl ?_
  refine xm_E_s r_X11_readCall_23 rfl (xm_T_iald rfl q8 (by decide) (fun e => e.elim (fun e => absurd e (by decide)) (fun e => Nat.not_le.mpr q9 e))) ?_
  refine xm_E_s r_X11_readCall_24 rfl rfl ?_
  refine xm_E_s r_X11_readCall_25 rfl rfl ?_
  refine xm_E_s r_X11_readCall_26 rfl rfl ?_
  refine xm_E_s r_X11_readCall_27 rfl (xm_T_asi rfl q8 q10) ?_
  refine xm_E_s r_X11_readCall_28 rfl rfl ?_
  refine xm_E_s r_X11_readCall_29 rfl (xm_T_gr rfl q1 rfl rfl q11) ?_
  refine xm_E_s r_X11_readCall_30 rfl rfl ?_
  refine xm_E_s r_X11_readCall_31 rfl rfl ?_
  refine xm_E_s r_X11_readCall_32 rfl rfl ?_
  refine xm_E_s r_X11_readCall_33 rfl (xm_T_gr rfl q1 rfl rfl q11) ?_
  refine xm_E_s r_X11_readCall_34 rfl rfl ?_
  refine xm_E_s r_X11_readCall_35 rfl (xm_T_iald rfl q12 (by decide) (fun e => e.elim (fun e => absurd e (by decide)) (fun e => Nat.not_le.mpr q13 e))) ?_
  refine xm_E_s r_X11_readCall_36 rfl rfl ?_
  refine xm_E_s r_X11_readCall_37 rfl rfl ?_
  refine xm_E_s r_X11_readCall_38 rfl rfl ?_
  refine xm_E_s r_X11_readCall_39 rfl rfl ?_
  refine xm_E_s r_X11_readCall_40 rfl rfl ?_
  refine xm_E_s r_X11_readCall_41 rfl (xm_T_asi rfl q12 q14) ?_
  refine xm_E_s r_X11_readCall_42 rfl rfl ?_
  refine xm_E_s r_X11_readCall_43 rfl (xm_T_gr rfl q1 rfl rfl q15) ?_
  refine xm_E_s r_X11_readCall_44 rfl rfl ?_
  refine xm_E_s r_X11_readCall_45 rfl rfl ?_
  refine xm_E_s r_X11_readCall_46 rfl (xm_T_iald rfl q16 (by decide) (fun e => e.elim (fun e => absurd e (by decide)) (fun e => Nat.not_le.mpr q17 e))) ?_
  refine xm_E_s r_X11_readCall_47 rfl rfl ?_
  refine xm_E_s r_X11_readCall_48 rfl rfl ?_
  refine xm_E_s r_X11_readCall_49 rfl (xm_T_asi rfl q16 (fun e => e.elim (fun e => absurd e (by decide)) (fun e => Nat.not_le.mpr q17 e))) ?_
  exact xm_E_ret r_X11_readCall_50 rfl
theorem r_X11_act_0 : co_X11_act[0]? = some ((0, .aload_n 0, 0, 0, 0, 0, 0, 0, []) : xm_I) := rfl
theorem r_X11_act_1 : co_X11_act[1]? = some ((1, .ldc 191, 35, 0, 1070, 1, 0, 0, []) : xm_I) := rfl
theorem r_X11_act_2 : co_X11_act[2]? = some ((3, .invokevirtual 149, 1557, 203, 2, 10, 0, 0, []) : xm_I) := rfl
theorem r_X11_act_3 : co_X11_act[3]? = some ((6, .ifCond .eq 5, 0, 0, 6, 0, 0, 0, []) : xm_I) := rfl
theorem r_X11_act_4 : co_X11_act[4]? = some ((9, .iconst 0, 0, 0, 0, 0, 0, 0, []) : xm_I) := rfl
theorem r_X11_act_5 : co_X11_act[5]? = some ((10, .ireturn, 0, 0, 0, 0, 0, 0, []) : xm_I) := rfl
theorem r_X11_act_6 : co_X11_act[6]? = some ((11, .aload_n 0, 0, 0, 0, 0, 0, 0, []) : xm_I) := rfl
theorem r_X11_act_7 : co_X11_act[7]? = some ((12, .ldc 193, 36, 0, 1072, 1, 0, 0, []) : xm_I) := rfl
theorem r_X11_act_8 : co_X11_act[8]? = some ((14, .invokevirtual 149, 1557, 203, 2, 10, 0, 0, []) : xm_I) := rfl
theorem r_X11_act_9 : co_X11_act[9]? = some ((17, .ifCond .eq 5, 0, 0, 12, 0, 0, 0, []) : xm_I) := rfl
theorem r_X11_act_10 : co_X11_act[10]? = some ((20, .iconst 1, 0, 0, 0, 0, 1, 0, []) : xm_I) := rfl
theorem r_X11_act_11 : co_X11_act[11]? = some ((21, .ireturn, 0, 0, 0, 0, 0, 0, []) : xm_I) := rfl
theorem r_X11_act_12 : co_X11_act[12]? = some ((22, .aload_n 0, 0, 0, 0, 0, 0, 0, []) : xm_I) := rfl
theorem r_X11_act_13 : co_X11_act[13]? = some ((23, .ldc 195, 37, 0, 1074, 1, 0, 0, []) : xm_I) := rfl
theorem r_X11_act_14 : co_X11_act[14]? = some ((25, .invokevirtual 149, 1557, 203, 2, 10, 0, 0, []) : xm_I) := rfl
theorem r_X11_act_15 : co_X11_act[15]? = some ((28, .ifCond .eq 5, 0, 0, 18, 0, 0, 0, []) : xm_I) := rfl
theorem r_X11_act_16 : co_X11_act[16]? = some ((31, .iconst 2, 0, 0, 0, 0, 2, 0, []) : xm_I) := rfl
theorem r_X11_act_17 : co_X11_act[17]? = some ((32, .ireturn, 0, 0, 0, 0, 0, 0, []) : xm_I) := rfl
theorem r_X11_act_18 : co_X11_act[18]? = some ((33, .aload_n 0, 0, 0, 0, 0, 0, 0, []) : xm_I) := rfl
theorem r_X11_act_19 : co_X11_act[19]? = some ((34, .ldc 197, 38, 0, 1076, 1, 0, 0, []) : xm_I) := rfl
theorem r_X11_act_20 : co_X11_act[20]? = some ((36, .invokevirtual 156, 1553, 202, 2, 10, 0, 0, []) : xm_I) := rfl
theorem r_X11_act_21 : co_X11_act[21]? = some ((39, .iconst 3, 0, 0, 0, 0, 3, 0, []) : xm_I) := rfl
theorem r_X11_act_22 : co_X11_act[22]? = some ((40, .ireturn, 0, 0, 0, 0, 0, 0, []) : xm_I) := rfl
theorem p_X11_act_0_0 {X : xm_X} {P : List xm_M} {d : Nat} {h : xm_H} {l0 : Nat} {h0 : xm_H} {r0 : Int32} {h1 : xm_H} {r1 : Int32} {h2 : xm_H} {r2 : Int32} {h3 : xm_H} (q0 : xm_V X P d 203 [.ref l0, .ref 1070] h (some (.int r0)) h0) (q1 : X.1[l0]? = some (.inr 10)) (q2 : r0 = (0 : Int32)) (q3 : xm_V X P d 203 [.ref l0, .ref 1072] h0 (some (.int r1)) h1) (q4 : r1 = (0 : Int32)) (q5 : xm_V X P d 203 [.ref l0, .ref 1074] h1 (some (.int r2)) h2) (q6 : r2 = (0 : Int32)) (q7 : xm_V X P d 202 [.ref l0, .ref 1076] h2 none h3) : xm_E X P d co_X11_act 0 [some (.ref l0)] [] h (some (.int (3 : Int32))) h3 := by
  refine xm_E_s r_X11_act_0 rfl rfl ?_
  refine xm_E_s r_X11_act_1 rfl rfl ?_
  refine xm_E_cv [.ref l0, .ref 1070] [] r_X11_act_2 rfl rfl (Nat.le_of_ble_eq_true rfl) (xm_rc q1 (by decide)) rfl q0 ?_
  refine xm_E_s r_X11_act_3 rfl rfl ?_
  refine xm_E_t q2 ?_
  refine xm_E_s r_X11_act_6 rfl rfl ?_
  refine xm_E_s r_X11_act_7 rfl rfl ?_
  refine xm_E_cv [.ref l0, .ref 1072] [] r_X11_act_8 rfl rfl (Nat.le_of_ble_eq_true rfl) (xm_rc q1 (by decide)) rfl q3 ?_
  refine xm_E_s r_X11_act_9 rfl rfl ?_
  refine xm_E_t q4 ?_
  refine xm_E_s r_X11_act_12 rfl rfl ?_
  refine xm_E_s r_X11_act_13 rfl rfl ?_
  refine xm_E_cv [.ref l0, .ref 1074] [] r_X11_act_14 rfl rfl (Nat.le_of_ble_eq_true rfl) (xm_rc q1 (by decide)) rfl q5 ?_
  refine xm_E_s r_X11_act_15 rfl rfl ?_
  refine xm_E_t q6 ?_
  refine xm_E_s r_X11_act_18 rfl rfl ?_
  refine xm_E_s r_X11_act_19 rfl rfl ?_
  refine xm_E_cv [.ref l0, .ref 1076] [] r_X11_act_20 rfl rfl (Nat.le_of_ble_eq_true rfl) (xm_rc q1 (by decide)) rfl q7 ?_
  refine xm_E_s r_X11_act_21 rfl rfl ?_
  exact xm_E_iret r_X11_act_22 rfl rfl
theorem p_X11_act_0_1 {X : xm_X} {P : List xm_M} {d : Nat} {h : xm_H} {l0 : Nat} {h0 : xm_H} {r0 : Int32} {h1 : xm_H} {r1 : Int32} {h2 : xm_H} {r2 : Int32} (q0 : xm_V X P d 203 [.ref l0, .ref 1070] h (some (.int r0)) h0) (q1 : X.1[l0]? = some (.inr 10)) (q2 : r0 = (0 : Int32)) (q3 : xm_V X P d 203 [.ref l0, .ref 1072] h0 (some (.int r1)) h1) (q4 : r1 = (0 : Int32)) (q5 : xm_V X P d 203 [.ref l0, .ref 1074] h1 (some (.int r2)) h2) (q6 : ¬ (r2 = (0 : Int32))) : xm_E X P d co_X11_act 0 [some (.ref l0)] [] h (some (.int (2 : Int32))) h2 := by
  refine xm_E_s r_X11_act_0 rfl rfl ?_
  refine xm_E_s r_X11_act_1 rfl rfl ?_
  refine xm_E_cv [.ref l0, .ref 1070] [] r_X11_act_2 rfl rfl (Nat.le_of_ble_eq_true rfl) (xm_rc q1 (by decide)) rfl q0 ?_
  refine xm_E_s r_X11_act_3 rfl rfl ?_
  refine xm_E_t q2 ?_
  refine xm_E_s r_X11_act_6 rfl rfl ?_
  refine xm_E_s r_X11_act_7 rfl rfl ?_
  refine xm_E_cv [.ref l0, .ref 1072] [] r_X11_act_8 rfl rfl (Nat.le_of_ble_eq_true rfl) (xm_rc q1 (by decide)) rfl q3 ?_
  refine xm_E_s r_X11_act_9 rfl rfl ?_
  refine xm_E_t q4 ?_
  refine xm_E_s r_X11_act_12 rfl rfl ?_
  refine xm_E_s r_X11_act_13 rfl rfl ?_
  refine xm_E_cv [.ref l0, .ref 1074] [] r_X11_act_14 rfl rfl (Nat.le_of_ble_eq_true rfl) (xm_rc q1 (by decide)) rfl q5 ?_
  refine xm_E_s r_X11_act_15 rfl rfl ?_
  refine xm_E_f q6 ?_
  refine xm_E_s r_X11_act_16 rfl rfl ?_
  exact xm_E_iret r_X11_act_17 rfl rfl
theorem p_X11_act_0_2 {X : xm_X} {P : List xm_M} {d : Nat} {h : xm_H} {l0 : Nat} {h0 : xm_H} {r0 : Int32} {h1 : xm_H} {r1 : Int32} (q0 : xm_V X P d 203 [.ref l0, .ref 1070] h (some (.int r0)) h0) (q1 : X.1[l0]? = some (.inr 10)) (q2 : r0 = (0 : Int32)) (q3 : xm_V X P d 203 [.ref l0, .ref 1072] h0 (some (.int r1)) h1) (q4 : ¬ (r1 = (0 : Int32))) : xm_E X P d co_X11_act 0 [some (.ref l0)] [] h (some (.int (1 : Int32))) h1 := by
  refine xm_E_s r_X11_act_0 rfl rfl ?_
  refine xm_E_s r_X11_act_1 rfl rfl ?_
  refine xm_E_cv [.ref l0, .ref 1070] [] r_X11_act_2 rfl rfl (Nat.le_of_ble_eq_true rfl) (xm_rc q1 (by decide)) rfl q0 ?_
  refine xm_E_s r_X11_act_3 rfl rfl ?_
  refine xm_E_t q2 ?_
  refine xm_E_s r_X11_act_6 rfl rfl ?_
  refine xm_E_s r_X11_act_7 rfl rfl ?_
  refine xm_E_cv [.ref l0, .ref 1072] [] r_X11_act_8 rfl rfl (Nat.le_of_ble_eq_true rfl) (xm_rc q1 (by decide)) rfl q3 ?_
  refine xm_E_s r_X11_act_9 rfl rfl ?_
  refine xm_E_f q4 ?_
  refine xm_E_s r_X11_act_10 rfl rfl ?_
  exact xm_E_iret r_X11_act_11 rfl rfl
theorem p_X11_act_0_3 {X : xm_X} {P : List xm_M} {d : Nat} {h : xm_H} {l0 : Nat} {h0 : xm_H} {r0 : Int32} (q0 : xm_V X P d 203 [.ref l0, .ref 1070] h (some (.int r0)) h0) (q1 : X.1[l0]? = some (.inr 10)) (q2 : ¬ (r0 = (0 : Int32))) : xm_E X P d co_X11_act 0 [some (.ref l0)] [] h (some (.int (0 : Int32))) h0 := by
  refine xm_E_s r_X11_act_0 rfl rfl ?_
  refine xm_E_s r_X11_act_1 rfl rfl ?_
  refine xm_E_cv [.ref l0, .ref 1070] [] r_X11_act_2 rfl rfl (Nat.le_of_ble_eq_true rfl) (xm_rc q1 (by decide)) rfl q0 ?_
  refine xm_E_s r_X11_act_3 rfl rfl ?_
  refine xm_E_f q2 ?_
  refine xm_E_s r_X11_act_4 rfl rfl ?_
  exact xm_E_iret r_X11_act_5 rfl rfl
theorem r_X11_readWish_0 : co_X11_readWish[0]? = some ((0, .aload_n 0, 0, 0, 0, 0, 0, 0, []) : xm_I) := rfl
theorem r_X11_readWish_1 : co_X11_readWish[1]? = some ((1, .ldc 165, 16, 0, 1032, 1, 0, 0, []) : xm_I) := rfl
theorem r_X11_readWish_2 : co_X11_readWish[2]? = some ((3, .iconst 1, 0, 0, 0, 0, 1, 0, []) : xm_I) := rfl
theorem r_X11_readWish_3 : co_X11_readWish[3]? = some ((4, .bipush 48, 0, 0, 0, 0, 48, 0, []) : xm_I) := rfl
theorem r_X11_readWish_4 : co_X11_readWish[4]? = some ((6, .invokevirtual 167, 1572, 206, 4, 10, 0, 0, []) : xm_I) := rfl
theorem r_X11_readWish_5 : co_X11_readWish[5]? = some ((9, .istore_n 1, 0, 0, 0, 0, 0, 0, []) : xm_I) := rfl
theorem r_X11_readWish_6 : co_X11_readWish[6]? = some ((10, .aload_n 0, 0, 0, 0, 0, 0, 0, []) : xm_I) := rfl
theorem r_X11_readWish_7 : co_X11_readWish[7]? = some ((11, .ldc 171, 17, 0, 1034, 1, 0, 0, []) : xm_I) := rfl
theorem r_X11_readWish_8 : co_X11_readWish[8]? = some ((13, .iconst 1, 0, 0, 0, 0, 1, 0, []) : xm_I) := rfl
theorem r_X11_readWish_9 : co_X11_readWish[9]? = some ((14, .bipush 48, 0, 0, 0, 0, 48, 0, []) : xm_I) := rfl
theorem r_X11_readWish_10 : co_X11_readWish[10]? = some ((16, .invokevirtual 167, 1572, 206, 4, 10, 0, 0, []) : xm_I) := rfl
theorem r_X11_readWish_11 : co_X11_readWish[11]? = some ((19, .istore_n 2, 0, 0, 0, 0, 0, 0, []) : xm_I) := rfl
theorem r_X11_readWish_12 : co_X11_readWish[12]? = some ((20, .aload_n 0, 0, 0, 0, 0, 0, 0, []) : xm_I) := rfl
theorem r_X11_readWish_13 : co_X11_readWish[13]? = some ((21, .invokevirtual 219, 1623, 213, 1, 10, 0, 0, []) : xm_I) := rfl
theorem r_X11_readWish_14 : co_X11_readWish[14]? = some ((24, .istore_n 3, 0, 0, 0, 0, 0, 0, []) : xm_I) := rfl
theorem r_X11_readWish_15 : co_X11_readWish[15]? = some ((25, .aload_n 0, 0, 0, 0, 0, 0, 0, []) : xm_I) := rfl
theorem r_X11_readWish_16 : co_X11_readWish[16]? = some ((26, .invokevirtual 222, 1630, 214, 1, 10, 0, 0, []) : xm_I) := rfl
theorem r_X11_readWish_17 : co_X11_readWish[17]? = some ((29, .istore 4, 0, 0, 0, 0, 0, 0, []) : xm_I) := rfl
theorem r_X11_readWish_18 : co_X11_readWish[18]? = some ((31, .aload_n 0, 0, 0, 0, 0, 0, 0, []) : xm_I) := rfl
theorem r_X11_readWish_19 : co_X11_readWish[19]? = some ((32, .invokevirtual 128, 1540, 199, 1, 10, 0, 0, []) : xm_I) := rfl
theorem r_X11_readWish_20 : co_X11_readWish[20]? = some ((35, .ifCond .ne 4, 0, 0, 22, 0, 0, 0, []) : xm_I) := rfl
theorem r_X11_readWish_21 : co_X11_readWish[21]? = some ((38, .return_, 0, 0, 0, 0, 0, 0, []) : xm_I) := rfl
theorem r_X11_readWish_22 : co_X11_readWish[22]? = some ((39, .aload_n 0, 0, 0, 0, 0, 0, 0, []) : xm_I) := rfl
theorem r_X11_readWish_23 : co_X11_readWish[23]? = some ((40, .getfield 31, 1394, 10, 14, 2, 0, 0, []) : xm_I) := rfl
theorem r_X11_readWish_24 : co_X11_readWish[24]? = some ((43, .bipush 13, 0, 0, 0, 0, 13, 0, []) : xm_I) := rfl
theorem r_X11_readWish_25 : co_X11_readWish[25]? = some ((45, .iconst 1, 0, 0, 0, 0, 1, 0, []) : xm_I) := rfl
theorem r_X11_readWish_26 : co_X11_readWish[26]? = some ((46, .iastore, 0, 0, 0, 0, 0, 0, []) : xm_I) := rfl
theorem r_X11_readWish_27 : co_X11_readWish[27]? = some ((47, .aload_n 0, 0, 0, 0, 0, 0, 0, []) : xm_I) := rfl
theorem r_X11_readWish_28 : co_X11_readWish[28]? = some ((48, .getfield 31, 1394, 10, 14, 2, 0, 0, []) : xm_I) := rfl
theorem r_X11_readWish_29 : co_X11_readWish[29]? = some ((51, .bipush 14, 0, 0, 0, 0, 14, 0, []) : xm_I) := rfl
theorem r_X11_readWish_30 : co_X11_readWish[30]? = some ((53, .iload_n 1, 0, 0, 0, 0, 0, 0, []) : xm_I) := rfl
theorem r_X11_readWish_31 : co_X11_readWish[31]? = some ((54, .iastore, 0, 0, 0, 0, 0, 0, []) : xm_I) := rfl
theorem r_X11_readWish_32 : co_X11_readWish[32]? = some ((55, .aload_n 0, 0, 0, 0, 0, 0, 0, []) : xm_I) := rfl
theorem r_X11_readWish_33 : co_X11_readWish[33]? = some ((56, .getfield 31, 1394, 10, 14, 2, 0, 0, []) : xm_I) := rfl
theorem r_X11_readWish_34 : co_X11_readWish[34]? = some ((59, .bipush 15, 0, 0, 0, 0, 15, 0, []) : xm_I) := rfl
theorem r_X11_readWish_35 : co_X11_readWish[35]? = some ((61, .iload_n 2, 0, 0, 0, 0, 0, 0, []) : xm_I) := rfl
theorem r_X11_readWish_36 : co_X11_readWish[36]? = some ((62, .iastore, 0, 0, 0, 0, 0, 0, []) : xm_I) := rfl
theorem r_X11_readWish_37 : co_X11_readWish[37]? = some ((63, .aload_n 0, 0, 0, 0, 0, 0, 0, []) : xm_I) := rfl
theorem r_X11_readWish_38 : co_X11_readWish[38]? = some ((64, .getfield 31, 1394, 10, 14, 2, 0, 0, []) : xm_I) := rfl
theorem r_X11_readWish_39 : co_X11_readWish[39]? = some ((67, .bipush 16, 0, 0, 0, 0, 16, 0, []) : xm_I) := rfl
theorem r_X11_readWish_40 : co_X11_readWish[40]? = some ((69, .iload_n 3, 0, 0, 0, 0, 0, 0, []) : xm_I) := rfl
theorem r_X11_readWish_41 : co_X11_readWish[41]? = some ((70, .iastore, 0, 0, 0, 0, 0, 0, []) : xm_I) := rfl
theorem r_X11_readWish_42 : co_X11_readWish[42]? = some ((71, .aload_n 0, 0, 0, 0, 0, 0, 0, []) : xm_I) := rfl
theorem r_X11_readWish_43 : co_X11_readWish[43]? = some ((72, .getfield 31, 1394, 10, 14, 2, 0, 0, []) : xm_I) := rfl
theorem r_X11_readWish_44 : co_X11_readWish[44]? = some ((75, .bipush 17, 0, 0, 0, 0, 17, 0, []) : xm_I) := rfl
theorem r_X11_readWish_45 : co_X11_readWish[45]? = some ((77, .iload 4, 0, 0, 0, 0, 0, 0, []) : xm_I) := rfl
theorem r_X11_readWish_46 : co_X11_readWish[46]? = some ((79, .iastore, 0, 0, 0, 0, 0, 0, []) : xm_I) := rfl
theorem r_X11_readWish_47 : co_X11_readWish[47]? = some ((80, .return_, 0, 0, 0, 0, 0, 0, []) : xm_I) := rfl
theorem p_X11_readWish_0_0 {X : xm_X} {P : List xm_M} {d : Nat} {h : xm_H} {l0 : Nat} {h0 : xm_H} {r0 : Int32} {h1 : xm_H} {r1 : Int32} {h2 : xm_H} {r2 : Int32} {h3 : xm_H} {r3 : Int32} {h4 : xm_H} {r4 : Int32} (q0 : xm_V X P d 206 [.ref l0, .ref 1032, .int (1 : Int32), .int (48 : Int32)] h (some (.int r0)) h0) (q1 : X.1[l0]? = some (.inr 10)) (q2 : xm_V X P d 206 [.ref l0, .ref 1034, .int (1 : Int32), .int (48 : Int32)] h0 (some (.int r1)) h1) (q3 : xm_V X P d 213 [.ref l0] h1 (some (.int r2)) h2) (q4 : xm_V X P d 214 [.ref l0] h2 (some (.int r3)) h3) (q5 : xm_V X P d 199 [.ref l0] h3 (some (.int r4)) h4) (q6 : r4 = (0 : Int32)) : xm_E X P d co_X11_readWish 0 [some (.ref l0), none, none, none, none] [] h none h4 := by
  refine xm_E_s r_X11_readWish_0 rfl rfl ?_
  refine xm_E_s r_X11_readWish_1 rfl rfl ?_
  refine xm_E_s r_X11_readWish_2 rfl rfl ?_
  refine xm_E_s r_X11_readWish_3 rfl rfl ?_
  refine xm_E_cv [.ref l0, .ref 1032, .int (1 : Int32), .int (48 : Int32)] [] r_X11_readWish_4 rfl rfl (Nat.le_of_ble_eq_true rfl) (xm_rc q1 (by decide)) rfl q0 ?_
  refine xm_E_s (ls1 := [some (.ref l0), some (.int r0), none, none, none]) r_X11_readWish_5 rfl rfl ?_
  refine xm_E_s r_X11_readWish_6 rfl rfl ?_
  refine xm_E_s r_X11_readWish_7 rfl rfl ?_
  refine xm_E_s r_X11_readWish_8 rfl rfl ?_
  refine xm_E_s r_X11_readWish_9 rfl rfl ?_
  refine xm_E_cv [.ref l0, .ref 1034, .int (1 : Int32), .int (48 : Int32)] [] r_X11_readWish_10 rfl rfl (Nat.le_of_ble_eq_true rfl) (xm_rc q1 (by decide)) rfl q2 ?_
  refine xm_E_s (ls1 := [some (.ref l0), some (.int r0), some (.int r1), none, none]) r_X11_readWish_11 rfl rfl ?_
  refine xm_E_s r_X11_readWish_12 rfl rfl ?_
  refine xm_E_cv [.ref l0] [] r_X11_readWish_13 rfl rfl (Nat.le_of_ble_eq_true rfl) (xm_rc q1 (by decide)) rfl q3 ?_
  refine xm_E_s (ls1 := [some (.ref l0), some (.int r0), some (.int r1), some (.int r2), none]) r_X11_readWish_14 rfl rfl ?_
  refine xm_E_s r_X11_readWish_15 rfl rfl ?_
  refine xm_E_cv [.ref l0] [] r_X11_readWish_16 rfl rfl (Nat.le_of_ble_eq_true rfl) (xm_rc q1 (by decide)) rfl q4 ?_
  refine xm_E_s (ls1 := [some (.ref l0), some (.int r0), some (.int r1), some (.int r2), some (.int r3)]) r_X11_readWish_17 rfl rfl ?_
  refine xm_E_s r_X11_readWish_18 rfl rfl ?_
  refine xm_E_cv [.ref l0] [] r_X11_readWish_19 rfl rfl (Nat.le_of_ble_eq_true rfl) (xm_rc q1 (by decide)) rfl q5 ?_
  refine xm_E_s r_X11_readWish_20 rfl rfl ?_
  refine xm_E_t q6 ?_
  exact xm_E_ret r_X11_readWish_21 rfl
theorem p_X11_readWish_0_1 {X : xm_X} {P : List xm_M} {d : Nat} {h : xm_H} {l0 : Nat} {h0 : xm_H} {r0 : Int32} {h1 : xm_H} {r1 : Int32} {h2 : xm_H} {r2 : Int32} {h3 : xm_H} {r3 : Int32} {h4 : xm_H} {r4 : Int32} {v5 : Nat} {n6 : Nat} {v7 : Nat} {n8 : Nat} {v9 : Nat} {n10 : Nat} {v11 : Nat} {n12 : Nat} {v13 : Nat} {n14 : Nat} (q0 : xm_V X P d 206 [.ref l0, .ref 1032, .int (1 : Int32), .int (48 : Int32)] h (some (.int r0)) h0) (q1 : X.1[l0]? = some (.inr 10)) (q2 : xm_V X P d 206 [.ref l0, .ref 1034, .int (1 : Int32), .int (48 : Int32)] h0 (some (.int r1)) h1) (q3 : xm_V X P d 213 [.ref l0] h1 (some (.int r2)) h2) (q4 : xm_V X P d 214 [.ref l0] h2 (some (.int r3)) h3) (q5 : xm_V X P d 199 [.ref l0] h3 (some (.int r4)) h4) (q6 : ¬ (r4 = (0 : Int32))) (q7 : h4.2.2 l0 14 = some v5) (q8 : X.1[v5]? = some (.inl (0, n6))) (q9 : 13 < n6) (q10 : (xm_si h4 v5 13 (1 : Int32)).2.2 l0 14 = some v7) (q11 : X.1[v7]? = some (.inl (0, n8))) (q12 : 14 < n8) (q13 : (xm_si (xm_si h4 v5 13 (1 : Int32)) v7 14 r0).2.2 l0 14 = some v9) (q14 : X.1[v9]? = some (.inl (0, n10))) (q15 : 15 < n10) (q16 : (xm_si (xm_si (xm_si h4 v5 13 (1 : Int32)) v7 14 r0) v9 15 r1).2.2 l0 14 = some v11) (q17 : X.1[v11]? = some (.inl (0, n12))) (q18 : 16 < n12) (q19 : (xm_si (xm_si (xm_si (xm_si h4 v5 13 (1 : Int32)) v7 14 r0) v9 15 r1) v11 16 r2).2.2 l0 14 = some v13) (q20 : X.1[v13]? = some (.inl (0, n14))) (q21 : 17 < n14) : xm_E X P d co_X11_readWish 0 [some (.ref l0), none, none, none, none] [] h none (xm_si (xm_si (xm_si (xm_si (xm_si h4 v5 13 (1 : Int32)) v7 14 r0) v9 15 r1) v11 16 r2) v13 17 r3) := by
  refine xm_E_s r_X11_readWish_0 rfl rfl ?_
  refine xm_E_s r_X11_readWish_1 rfl rfl ?_
  refine xm_E_s r_X11_readWish_2 rfl rfl ?_
  refine xm_E_s r_X11_readWish_3 rfl rfl ?_
  refine xm_E_cv [.ref l0, .ref 1032, .int (1 : Int32), .int (48 : Int32)] [] r_X11_readWish_4 rfl rfl (Nat.le_of_ble_eq_true rfl) (xm_rc q1 (by decide)) rfl q0 ?_
  refine xm_E_s (ls1 := [some (.ref l0), some (.int r0), none, none, none]) r_X11_readWish_5 rfl rfl ?_
  refine xm_E_s r_X11_readWish_6 rfl rfl ?_
  refine xm_E_s r_X11_readWish_7 rfl rfl ?_
  refine xm_E_s r_X11_readWish_8 rfl rfl ?_
  refine xm_E_s r_X11_readWish_9 rfl rfl ?_
  refine xm_E_cv [.ref l0, .ref 1034, .int (1 : Int32), .int (48 : Int32)] [] r_X11_readWish_10 rfl rfl (Nat.le_of_ble_eq_true rfl) (xm_rc q1 (by decide)) rfl q2 ?_
  refine xm_E_s (ls1 := [some (.ref l0), some (.int r0), some (.int r1), none, none]) r_X11_readWish_11 rfl rfl ?_
  refine xm_E_s r_X11_readWish_12 rfl rfl ?_
  refine xm_E_cv [.ref l0] [] r_X11_readWish_13 rfl rfl (Nat.le_of_ble_eq_true rfl) (xm_rc q1 (by decide)) rfl q3 ?_
  refine xm_E_s (ls1 := [some (.ref l0), some (.int r0), some (.int r1), some (.int r2), none]) r_X11_readWish_14 rfl rfl ?_
  refine xm_E_s r_X11_readWish_15 rfl rfl ?_
  refine xm_E_cv [.ref l0] [] r_X11_readWish_16 rfl rfl (Nat.le_of_ble_eq_true rfl) (xm_rc q1 (by decide)) rfl q4 ?_
  refine xm_E_s (ls1 := [some (.ref l0), some (.int r0), some (.int r1), some (.int r2), some (.int r3)]) r_X11_readWish_17 rfl rfl ?_
  refine xm_E_s r_X11_readWish_18 rfl rfl ?_
  refine xm_E_cv [.ref l0] [] r_X11_readWish_19 rfl rfl (Nat.le_of_ble_eq_true rfl) (xm_rc q1 (by decide)) rfl q5 ?_
  refine xm_E_s r_X11_readWish_20 rfl rfl ?_
  refine xm_E_f q6 ?_
  refine xm_E_s r_X11_readWish_22 rfl rfl ?_
  refine xm_E_s r_X11_readWish_23 rfl (xm_T_gr rfl q1 rfl rfl q7) ?_
  refine xm_E_s r_X11_readWish_24 rfl rfl ?_
  refine xm_E_s r_X11_readWish_25 rfl rfl ?_
  refine xm_E_s r_X11_readWish_26 rfl (xm_T_asi rfl q8 (fun e => e.elim (fun e => absurd e (by decide)) (fun e => Nat.not_le.mpr q9 e))) ?_
  refine xm_E_s r_X11_readWish_27 rfl rfl ?_
  refine xm_E_s r_X11_readWish_28 rfl (xm_T_gr rfl q1 rfl rfl q10) ?_
  refine xm_E_s r_X11_readWish_29 rfl rfl ?_
  refine xm_E_s r_X11_readWish_30 rfl rfl ?_
  refine xm_E_s r_X11_readWish_31 rfl (xm_T_asi rfl q11 (fun e => e.elim (fun e => absurd e (by decide)) (fun e => Nat.not_le.mpr q12 e))) ?_
  refine xm_E_s r_X11_readWish_32 rfl rfl ?_
  refine xm_E_s r_X11_readWish_33 rfl (xm_T_gr rfl q1 rfl rfl q13) ?_
  refine xm_E_s r_X11_readWish_34 rfl rfl ?_
  refine xm_E_s r_X11_readWish_35 rfl rfl ?_
  refine xm_E_s r_X11_readWish_36 rfl (xm_T_asi rfl q14 (fun e => e.elim (fun e => absurd e (by decide)) (fun e => Nat.not_le.mpr q15 e))) ?_
  refine xm_E_s r_X11_readWish_37 rfl rfl ?_
  refine xm_E_s r_X11_readWish_38 rfl (xm_T_gr rfl q1 rfl rfl q16) ?_
  refine xm_E_s r_X11_readWish_39 rfl rfl ?_
  refine xm_E_s r_X11_readWish_40 rfl rfl ?_
  refine xm_E_s r_X11_readWish_41 rfl (xm_T_asi rfl q17 (fun e => e.elim (fun e => absurd e (by decide)) (fun e => Nat.not_le.mpr q18 e))) ?_
  refine xm_E_s r_X11_readWish_42 rfl rfl ?_
  refine xm_E_s r_X11_readWish_43 rfl (xm_T_gr rfl q1 rfl rfl q19) ?_
  refine xm_E_s r_X11_readWish_44 rfl rfl ?_
  refine xm_E_s r_X11_readWish_45 rfl rfl ?_
  refine xm_E_s r_X11_readWish_46 rfl (xm_T_asi rfl q20 (fun e => e.elim (fun e => absurd e (by decide)) (fun e => Nat.not_le.mpr q21 e))) ?_
  exact xm_E_ret r_X11_readWish_47 rfl
theorem r_X11_facing_0 : co_X11_facing[0]? = some ((0, .aload_n 0, 0, 0, 0, 0, 0, 0, []) : xm_I) := rfl
theorem r_X11_facing_1 : co_X11_facing[1]? = some ((1, .ldc 206, 40, 0, 1080, 1, 0, 0, []) : xm_I) := rfl
theorem r_X11_facing_2 : co_X11_facing[2]? = some ((3, .invokevirtual 149, 1557, 203, 2, 10, 0, 0, []) : xm_I) := rfl
theorem r_X11_facing_3 : co_X11_facing[3]? = some ((6, .ifCond .eq 5, 0, 0, 6, 0, 0, 0, []) : xm_I) := rfl
theorem r_X11_facing_4 : co_X11_facing[4]? = some ((9, .iconst 0, 0, 0, 0, 0, 0, 0, []) : xm_I) := rfl
theorem r_X11_facing_5 : co_X11_facing[5]? = some ((10, .ireturn, 0, 0, 0, 0, 0, 0, []) : xm_I) := rfl
theorem r_X11_facing_6 : co_X11_facing[6]? = some ((11, .aload_n 0, 0, 0, 0, 0, 0, 0, []) : xm_I) := rfl
theorem r_X11_facing_7 : co_X11_facing[7]? = some ((12, .ldc 208, 41, 0, 1082, 1, 0, 0, []) : xm_I) := rfl
theorem r_X11_facing_8 : co_X11_facing[8]? = some ((14, .invokevirtual 149, 1557, 203, 2, 10, 0, 0, []) : xm_I) := rfl
theorem r_X11_facing_9 : co_X11_facing[9]? = some ((17, .ifCond .eq 5, 0, 0, 12, 0, 0, 0, []) : xm_I) := rfl
theorem r_X11_facing_10 : co_X11_facing[10]? = some ((20, .iconst 1, 0, 0, 0, 0, 1, 0, []) : xm_I) := rfl
theorem r_X11_facing_11 : co_X11_facing[11]? = some ((21, .ireturn, 0, 0, 0, 0, 0, 0, []) : xm_I) := rfl
theorem r_X11_facing_12 : co_X11_facing[12]? = some ((22, .aload_n 0, 0, 0, 0, 0, 0, 0, []) : xm_I) := rfl
theorem r_X11_facing_13 : co_X11_facing[13]? = some ((23, .ldc 210, 42, 0, 1084, 1, 0, 0, []) : xm_I) := rfl
theorem r_X11_facing_14 : co_X11_facing[14]? = some ((25, .invokevirtual 156, 1553, 202, 2, 10, 0, 0, []) : xm_I) := rfl
theorem r_X11_facing_15 : co_X11_facing[15]? = some ((28, .iconst 2, 0, 0, 0, 0, 2, 0, []) : xm_I) := rfl
theorem r_X11_facing_16 : co_X11_facing[16]? = some ((29, .ireturn, 0, 0, 0, 0, 0, 0, []) : xm_I) := rfl
theorem p_X11_facing_0_0 {X : xm_X} {P : List xm_M} {d : Nat} {h : xm_H} {l0 : Nat} {h0 : xm_H} {r0 : Int32} {h1 : xm_H} {r1 : Int32} {h2 : xm_H} (q0 : xm_V X P d 203 [.ref l0, .ref 1080] h (some (.int r0)) h0) (q1 : X.1[l0]? = some (.inr 10)) (q2 : r0 = (0 : Int32)) (q3 : xm_V X P d 203 [.ref l0, .ref 1082] h0 (some (.int r1)) h1) (q4 : r1 = (0 : Int32)) (q5 : xm_V X P d 202 [.ref l0, .ref 1084] h1 none h2) : xm_E X P d co_X11_facing 0 [some (.ref l0)] [] h (some (.int (2 : Int32))) h2 := by
  refine xm_E_s r_X11_facing_0 rfl rfl ?_
  refine xm_E_s r_X11_facing_1 rfl rfl ?_
  refine xm_E_cv [.ref l0, .ref 1080] [] r_X11_facing_2 rfl rfl (Nat.le_of_ble_eq_true rfl) (xm_rc q1 (by decide)) rfl q0 ?_
  refine xm_E_s r_X11_facing_3 rfl rfl ?_
  refine xm_E_t q2 ?_
  refine xm_E_s r_X11_facing_6 rfl rfl ?_
  refine xm_E_s r_X11_facing_7 rfl rfl ?_
  refine xm_E_cv [.ref l0, .ref 1082] [] r_X11_facing_8 rfl rfl (Nat.le_of_ble_eq_true rfl) (xm_rc q1 (by decide)) rfl q3 ?_
  refine xm_E_s r_X11_facing_9 rfl rfl ?_
  refine xm_E_t q4 ?_
  refine xm_E_s r_X11_facing_12 rfl rfl ?_
  refine xm_E_s r_X11_facing_13 rfl rfl ?_
  refine xm_E_cv [.ref l0, .ref 1084] [] r_X11_facing_14 rfl rfl (Nat.le_of_ble_eq_true rfl) (xm_rc q1 (by decide)) rfl q5 ?_
  refine xm_E_s r_X11_facing_15 rfl rfl ?_
  exact xm_E_iret r_X11_facing_16 rfl rfl
theorem p_X11_facing_0_1 {X : xm_X} {P : List xm_M} {d : Nat} {h : xm_H} {l0 : Nat} {h0 : xm_H} {r0 : Int32} {h1 : xm_H} {r1 : Int32} (q0 : xm_V X P d 203 [.ref l0, .ref 1080] h (some (.int r0)) h0) (q1 : X.1[l0]? = some (.inr 10)) (q2 : r0 = (0 : Int32)) (q3 : xm_V X P d 203 [.ref l0, .ref 1082] h0 (some (.int r1)) h1) (q4 : ¬ (r1 = (0 : Int32))) : xm_E X P d co_X11_facing 0 [some (.ref l0)] [] h (some (.int (1 : Int32))) h1 := by
  refine xm_E_s r_X11_facing_0 rfl rfl ?_
  refine xm_E_s r_X11_facing_1 rfl rfl ?_
  refine xm_E_cv [.ref l0, .ref 1080] [] r_X11_facing_2 rfl rfl (Nat.le_of_ble_eq_true rfl) (xm_rc q1 (by decide)) rfl q0 ?_
  refine xm_E_s r_X11_facing_3 rfl rfl ?_
  refine xm_E_t q2 ?_
  refine xm_E_s r_X11_facing_6 rfl rfl ?_
  refine xm_E_s r_X11_facing_7 rfl rfl ?_
  refine xm_E_cv [.ref l0, .ref 1082] [] r_X11_facing_8 rfl rfl (Nat.le_of_ble_eq_true rfl) (xm_rc q1 (by decide)) rfl q3 ?_
  refine xm_E_s r_X11_facing_9 rfl rfl ?_
  refine xm_E_f q4 ?_
  refine xm_E_s r_X11_facing_10 rfl rfl ?_
  exact xm_E_iret r_X11_facing_11 rfl rfl
theorem p_X11_facing_0_2 {X : xm_X} {P : List xm_M} {d : Nat} {h : xm_H} {l0 : Nat} {h0 : xm_H} {r0 : Int32} (q0 : xm_V X P d 203 [.ref l0, .ref 1080] h (some (.int r0)) h0) (q1 : X.1[l0]? = some (.inr 10)) (q2 : ¬ (r0 = (0 : Int32))) : xm_E X P d co_X11_facing 0 [some (.ref l0)] [] h (some (.int (0 : Int32))) h0 := by
  refine xm_E_s r_X11_facing_0 rfl rfl ?_
  refine xm_E_s r_X11_facing_1 rfl rfl ?_
  refine xm_E_cv [.ref l0, .ref 1080] [] r_X11_facing_2 rfl rfl (Nat.le_of_ble_eq_true rfl) (xm_rc q1 (by decide)) rfl q0 ?_
  refine xm_E_s r_X11_facing_3 rfl rfl ?_
  refine xm_E_f q2 ?_
  refine xm_E_s r_X11_facing_4 rfl rfl ?_
  exact xm_E_iret r_X11_facing_5 rfl rfl
theorem r_X11_hemming_0 : co_X11_hemming[0]? = some ((0, .aload_n 0, 0, 0, 0, 0, 0, 0, []) : xm_I) := rfl
theorem r_X11_hemming_1 : co_X11_hemming[1]? = some ((1, .ldc 191, 35, 0, 1070, 1, 0, 0, []) : xm_I) := rfl
theorem r_X11_hemming_2 : co_X11_hemming[2]? = some ((3, .invokevirtual 149, 1557, 203, 2, 10, 0, 0, []) : xm_I) := rfl
theorem r_X11_hemming_3 : co_X11_hemming[3]? = some ((6, .ifCond .eq 5, 0, 0, 6, 0, 0, 0, []) : xm_I) := rfl
theorem r_X11_hemming_4 : co_X11_hemming[4]? = some ((9, .iconst 0, 0, 0, 0, 0, 0, 0, []) : xm_I) := rfl
theorem r_X11_hemming_5 : co_X11_hemming[5]? = some ((10, .ireturn, 0, 0, 0, 0, 0, 0, []) : xm_I) := rfl
theorem r_X11_hemming_6 : co_X11_hemming[6]? = some ((11, .aload_n 0, 0, 0, 0, 0, 0, 0, []) : xm_I) := rfl
theorem r_X11_hemming_7 : co_X11_hemming[7]? = some ((12, .ldc 193, 36, 0, 1072, 1, 0, 0, []) : xm_I) := rfl
theorem r_X11_hemming_8 : co_X11_hemming[8]? = some ((14, .invokevirtual 149, 1557, 203, 2, 10, 0, 0, []) : xm_I) := rfl
theorem r_X11_hemming_9 : co_X11_hemming[9]? = some ((17, .ifCond .eq 5, 0, 0, 12, 0, 0, 0, []) : xm_I) := rfl
theorem r_X11_hemming_10 : co_X11_hemming[10]? = some ((20, .iconst 1, 0, 0, 0, 0, 1, 0, []) : xm_I) := rfl
theorem r_X11_hemming_11 : co_X11_hemming[11]? = some ((21, .ireturn, 0, 0, 0, 0, 0, 0, []) : xm_I) := rfl
theorem r_X11_hemming_12 : co_X11_hemming[12]? = some ((22, .aload_n 0, 0, 0, 0, 0, 0, 0, []) : xm_I) := rfl
theorem r_X11_hemming_13 : co_X11_hemming[13]? = some ((23, .ldc 212, 43, 0, 1086, 1, 0, 0, []) : xm_I) := rfl
theorem r_X11_hemming_14 : co_X11_hemming[14]? = some ((25, .invokevirtual 149, 1557, 203, 2, 10, 0, 0, []) : xm_I) := rfl
theorem r_X11_hemming_15 : co_X11_hemming[15]? = some ((28, .ifCond .eq 5, 0, 0, 18, 0, 0, 0, []) : xm_I) := rfl
theorem r_X11_hemming_16 : co_X11_hemming[16]? = some ((31, .iconst 2, 0, 0, 0, 0, 2, 0, []) : xm_I) := rfl
theorem r_X11_hemming_17 : co_X11_hemming[17]? = some ((32, .ireturn, 0, 0, 0, 0, 0, 0, []) : xm_I) := rfl
theorem r_X11_hemming_18 : co_X11_hemming[18]? = some ((33, .aload_n 0, 0, 0, 0, 0, 0, 0, []) : xm_I) := rfl
theorem r_X11_hemming_19 : co_X11_hemming[19]? = some ((34, .ldc 214, 44, 0, 1088, 1, 0, 0, []) : xm_I) := rfl
theorem r_X11_hemming_20 : co_X11_hemming[20]? = some ((36, .invokevirtual 149, 1557, 203, 2, 10, 0, 0, []) : xm_I) := rfl
theorem r_X11_hemming_21 : co_X11_hemming[21]? = some ((39, .ifCond .eq 5, 0, 0, 24, 0, 0, 0, []) : xm_I) := rfl
theorem r_X11_hemming_22 : co_X11_hemming[22]? = some ((42, .iconst 3, 0, 0, 0, 0, 3, 0, []) : xm_I) := rfl
theorem r_X11_hemming_23 : co_X11_hemming[23]? = some ((43, .ireturn, 0, 0, 0, 0, 0, 0, []) : xm_I) := rfl
theorem r_X11_hemming_24 : co_X11_hemming[24]? = some ((44, .aload_n 0, 0, 0, 0, 0, 0, 0, []) : xm_I) := rfl
theorem r_X11_hemming_25 : co_X11_hemming[25]? = some ((45, .ldc 216, 45, 0, 1090, 1, 0, 0, []) : xm_I) := rfl
theorem r_X11_hemming_26 : co_X11_hemming[26]? = some ((47, .invokevirtual 149, 1557, 203, 2, 10, 0, 0, []) : xm_I) := rfl
theorem r_X11_hemming_27 : co_X11_hemming[27]? = some ((50, .ifCond .eq 5, 0, 0, 30, 0, 0, 0, []) : xm_I) := rfl
theorem r_X11_hemming_28 : co_X11_hemming[28]? = some ((53, .iconst 4, 0, 0, 0, 0, 4, 0, []) : xm_I) := rfl
theorem r_X11_hemming_29 : co_X11_hemming[29]? = some ((54, .ireturn, 0, 0, 0, 0, 0, 0, []) : xm_I) := rfl
theorem r_X11_hemming_30 : co_X11_hemming[30]? = some ((55, .aload_n 0, 0, 0, 0, 0, 0, 0, []) : xm_I) := rfl
theorem r_X11_hemming_31 : co_X11_hemming[31]? = some ((56, .ldc 217, 46, 0, 1092, 1, 0, 0, []) : xm_I) := rfl
theorem r_X11_hemming_32 : co_X11_hemming[32]? = some ((58, .invokevirtual 156, 1553, 202, 2, 10, 0, 0, []) : xm_I) := rfl
theorem r_X11_hemming_33 : co_X11_hemming[33]? = some ((61, .iconst 5, 0, 0, 0, 0, 5, 0, []) : xm_I) := rfl
theorem r_X11_hemming_34 : co_X11_hemming[34]? = some ((62, .ireturn, 0, 0, 0, 0, 0, 0, []) : xm_I) := rfl
theorem p_X11_hemming_0_0 {X : xm_X} {P : List xm_M} {d : Nat} {h : xm_H} {l0 : Nat} {h0 : xm_H} {r0 : Int32} {h1 : xm_H} {r1 : Int32} {h2 : xm_H} {r2 : Int32} {h3 : xm_H} {r3 : Int32} {h4 : xm_H} {r4 : Int32} {h5 : xm_H} (q0 : xm_V X P d 203 [.ref l0, .ref 1070] h (some (.int r0)) h0) (q1 : X.1[l0]? = some (.inr 10)) (q2 : r0 = (0 : Int32)) (q3 : xm_V X P d 203 [.ref l0, .ref 1072] h0 (some (.int r1)) h1) (q4 : r1 = (0 : Int32)) (q5 : xm_V X P d 203 [.ref l0, .ref 1086] h1 (some (.int r2)) h2) (q6 : r2 = (0 : Int32)) (q7 : xm_V X P d 203 [.ref l0, .ref 1088] h2 (some (.int r3)) h3) (q8 : r3 = (0 : Int32)) (q9 : xm_V X P d 203 [.ref l0, .ref 1090] h3 (some (.int r4)) h4) (q10 : r4 = (0 : Int32)) (q11 : xm_V X P d 202 [.ref l0, .ref 1092] h4 none h5) : xm_E X P d co_X11_hemming 0 [some (.ref l0)] [] h (some (.int (5 : Int32))) h5 := by
  refine xm_E_s r_X11_hemming_0 rfl rfl ?_
  refine xm_E_s r_X11_hemming_1 rfl rfl ?_
  refine xm_E_cv [.ref l0, .ref 1070] [] r_X11_hemming_2 rfl rfl (Nat.le_of_ble_eq_true rfl) (xm_rc q1 (by decide)) rfl q0 ?_
  refine xm_E_s r_X11_hemming_3 rfl rfl ?_
  refine xm_E_t q2 ?_
  refine xm_E_s r_X11_hemming_6 rfl rfl ?_
  refine xm_E_s r_X11_hemming_7 rfl rfl ?_
  refine xm_E_cv [.ref l0, .ref 1072] [] r_X11_hemming_8 rfl rfl (Nat.le_of_ble_eq_true rfl) (xm_rc q1 (by decide)) rfl q3 ?_
  refine xm_E_s r_X11_hemming_9 rfl rfl ?_
  refine xm_E_t q4 ?_
  refine xm_E_s r_X11_hemming_12 rfl rfl ?_
  refine xm_E_s r_X11_hemming_13 rfl rfl ?_
  refine xm_E_cv [.ref l0, .ref 1086] [] r_X11_hemming_14 rfl rfl (Nat.le_of_ble_eq_true rfl) (xm_rc q1 (by decide)) rfl q5 ?_
  refine xm_E_s r_X11_hemming_15 rfl rfl ?_
  refine xm_E_t q6 ?_
  refine xm_E_s r_X11_hemming_18 rfl rfl ?_
  refine xm_E_s r_X11_hemming_19 rfl rfl ?_
  refine xm_E_cv [.ref l0, .ref 1088] [] r_X11_hemming_20 rfl rfl (Nat.le_of_ble_eq_true rfl) (xm_rc q1 (by decide)) rfl q7 ?_
  refine xm_E_s r_X11_hemming_21 rfl rfl ?_
  refine xm_E_t q8 ?_
  refine xm_E_s r_X11_hemming_24 rfl rfl ?_
  refine xm_E_s r_X11_hemming_25 rfl rfl ?_
  refine xm_E_cv [.ref l0, .ref 1090] [] r_X11_hemming_26 rfl rfl (Nat.le_of_ble_eq_true rfl) (xm_rc q1 (by decide)) rfl q9 ?_
  refine xm_E_s r_X11_hemming_27 rfl rfl ?_
  refine xm_E_t q10 ?_
  refine xm_E_s r_X11_hemming_30 rfl rfl ?_
  refine xm_E_s r_X11_hemming_31 rfl rfl ?_
  refine xm_E_cv [.ref l0, .ref 1092] [] r_X11_hemming_32 rfl rfl (Nat.le_of_ble_eq_true rfl) (xm_rc q1 (by decide)) rfl q11 ?_
  refine xm_E_s r_X11_hemming_33 rfl rfl ?_
  exact xm_E_iret r_X11_hemming_34 rfl rfl
theorem p_X11_hemming_0_1 {X : xm_X} {P : List xm_M} {d : Nat} {h : xm_H} {l0 : Nat} {h0 : xm_H} {r0 : Int32} {h1 : xm_H} {r1 : Int32} {h2 : xm_H} {r2 : Int32} {h3 : xm_H} {r3 : Int32} {h4 : xm_H} {r4 : Int32} (q0 : xm_V X P d 203 [.ref l0, .ref 1070] h (some (.int r0)) h0) (q1 : X.1[l0]? = some (.inr 10)) (q2 : r0 = (0 : Int32)) (q3 : xm_V X P d 203 [.ref l0, .ref 1072] h0 (some (.int r1)) h1) (q4 : r1 = (0 : Int32)) (q5 : xm_V X P d 203 [.ref l0, .ref 1086] h1 (some (.int r2)) h2) (q6 : r2 = (0 : Int32)) (q7 : xm_V X P d 203 [.ref l0, .ref 1088] h2 (some (.int r3)) h3) (q8 : r3 = (0 : Int32)) (q9 : xm_V X P d 203 [.ref l0, .ref 1090] h3 (some (.int r4)) h4) (q10 : ¬ (r4 = (0 : Int32))) : xm_E X P d co_X11_hemming 0 [some (.ref l0)] [] h (some (.int (4 : Int32))) h4 := by
  refine xm_E_s r_X11_hemming_0 rfl rfl ?_
  refine xm_E_s r_X11_hemming_1 rfl rfl ?_
  refine xm_E_cv [.ref l0, .ref 1070] [] r_X11_hemming_2 rfl rfl (Nat.le_of_ble_eq_true rfl) (xm_rc q1 (by decide)) rfl q0 ?_
  refine xm_E_s r_X11_hemming_3 rfl rfl ?_
  refine xm_E_t q2 ?_
  refine xm_E_s r_X11_hemming_6 rfl rfl ?_
  refine xm_E_s r_X11_hemming_7 rfl rfl ?_
  refine xm_E_cv [.ref l0, .ref 1072] [] r_X11_hemming_8 rfl rfl (Nat.le_of_ble_eq_true rfl) (xm_rc q1 (by decide)) rfl q3 ?_
  refine xm_E_s r_X11_hemming_9 rfl rfl ?_
  refine xm_E_t q4 ?_
  refine xm_E_s r_X11_hemming_12 rfl rfl ?_
  refine xm_E_s r_X11_hemming_13 rfl rfl ?_
  refine xm_E_cv [.ref l0, .ref 1086] [] r_X11_hemming_14 rfl rfl (Nat.le_of_ble_eq_true rfl) (xm_rc q1 (by decide)) rfl q5 ?_
  refine xm_E_s r_X11_hemming_15 rfl rfl ?_
  refine xm_E_t q6 ?_
  refine xm_E_s r_X11_hemming_18 rfl rfl ?_
  refine xm_E_s r_X11_hemming_19 rfl rfl ?_
  refine xm_E_cv [.ref l0, .ref 1088] [] r_X11_hemming_20 rfl rfl (Nat.le_of_ble_eq_true rfl) (xm_rc q1 (by decide)) rfl q7 ?_
  refine xm_E_s r_X11_hemming_21 rfl rfl ?_
  refine xm_E_t q8 ?_
  refine xm_E_s r_X11_hemming_24 rfl rfl ?_
  refine xm_E_s r_X11_hemming_25 rfl rfl ?_
  refine xm_E_cv [.ref l0, .ref 1090] [] r_X11_hemming_26 rfl rfl (Nat.le_of_ble_eq_true rfl) (xm_rc q1 (by decide)) rfl q9 ?_
  refine xm_E_s r_X11_hemming_27 rfl rfl ?_
  refine xm_E_f q10 ?_
  refine xm_E_s r_X11_hemming_28 rfl rfl ?_
  exact xm_E_iret r_X11_hemming_29 rfl rfl
theorem p_X11_hemming_0_2 {X : xm_X} {P : List xm_M} {d : Nat} {h : xm_H} {l0 : Nat} {h0 : xm_H} {r0 : Int32} {h1 : xm_H} {r1 : Int32} {h2 : xm_H} {r2 : Int32} {h3 : xm_H} {r3 : Int32} (q0 : xm_V X P d 203 [.ref l0, .ref 1070] h (some (.int r0)) h0) (q1 : X.1[l0]? = some (.inr 10)) (q2 : r0 = (0 : Int32)) (q3 : xm_V X P d 203 [.ref l0, .ref 1072] h0 (some (.int r1)) h1) (q4 : r1 = (0 : Int32)) (q5 : xm_V X P d 203 [.ref l0, .ref 1086] h1 (some (.int r2)) h2) (q6 : r2 = (0 : Int32)) (q7 : xm_V X P d 203 [.ref l0, .ref 1088] h2 (some (.int r3)) h3) (q8 : ¬ (r3 = (0 : Int32))) : xm_E X P d co_X11_hemming 0 [some (.ref l0)] [] h (some (.int (3 : Int32))) h3 := by
  refine xm_E_s r_X11_hemming_0 rfl rfl ?_
  refine xm_E_s r_X11_hemming_1 rfl rfl ?_
  refine xm_E_cv [.ref l0, .ref 1070] [] r_X11_hemming_2 rfl rfl (Nat.le_of_ble_eq_true rfl) (xm_rc q1 (by decide)) rfl q0 ?_
  refine xm_E_s r_X11_hemming_3 rfl rfl ?_
  refine xm_E_t q2 ?_
  refine xm_E_s r_X11_hemming_6 rfl rfl ?_
  refine xm_E_s r_X11_hemming_7 rfl rfl ?_
  refine xm_E_cv [.ref l0, .ref 1072] [] r_X11_hemming_8 rfl rfl (Nat.le_of_ble_eq_true rfl) (xm_rc q1 (by decide)) rfl q3 ?_
  refine xm_E_s r_X11_hemming_9 rfl rfl ?_
  refine xm_E_t q4 ?_
  refine xm_E_s r_X11_hemming_12 rfl rfl ?_
  refine xm_E_s r_X11_hemming_13 rfl rfl ?_
  refine xm_E_cv [.ref l0, .ref 1086] [] r_X11_hemming_14 rfl rfl (Nat.le_of_ble_eq_true rfl) (xm_rc q1 (by decide)) rfl q5 ?_
  refine xm_E_s r_X11_hemming_15 rfl rfl ?_
  refine xm_E_t q6 ?_
  refine xm_E_s r_X11_hemming_18 rfl rfl ?_
  refine xm_E_s r_X11_hemming_19 rfl rfl ?_
  refine xm_E_cv [.ref l0, .ref 1088] [] r_X11_hemming_20 rfl rfl (Nat.le_of_ble_eq_true rfl) (xm_rc q1 (by decide)) rfl q7 ?_
  refine xm_E_s r_X11_hemming_21 rfl rfl ?_
  refine xm_E_f q8 ?_
  refine xm_E_s r_X11_hemming_22 rfl rfl ?_
  exact xm_E_iret r_X11_hemming_23 rfl rfl
theorem p_X11_hemming_0_3 {X : xm_X} {P : List xm_M} {d : Nat} {h : xm_H} {l0 : Nat} {h0 : xm_H} {r0 : Int32} {h1 : xm_H} {r1 : Int32} {h2 : xm_H} {r2 : Int32} (q0 : xm_V X P d 203 [.ref l0, .ref 1070] h (some (.int r0)) h0) (q1 : X.1[l0]? = some (.inr 10)) (q2 : r0 = (0 : Int32)) (q3 : xm_V X P d 203 [.ref l0, .ref 1072] h0 (some (.int r1)) h1) (q4 : r1 = (0 : Int32)) (q5 : xm_V X P d 203 [.ref l0, .ref 1086] h1 (some (.int r2)) h2) (q6 : ¬ (r2 = (0 : Int32))) : xm_E X P d co_X11_hemming 0 [some (.ref l0)] [] h (some (.int (2 : Int32))) h2 := by
  refine xm_E_s r_X11_hemming_0 rfl rfl ?_
  refine xm_E_s r_X11_hemming_1 rfl rfl ?_
  refine xm_E_cv [.ref l0, .ref 1070] [] r_X11_hemming_2 rfl rfl (Nat.le_of_ble_eq_true rfl) (xm_rc q1 (by decide)) rfl q0 ?_
  refine xm_E_s r_X11_hemming_3 rfl rfl ?_
  refine xm_E_t q2 ?_
  refine xm_E_s r_X11_hemming_6 rfl rfl ?_
  refine xm_E_s r_X11_hemming_7 rfl rfl ?_
  refine xm_E_cv [.ref l0, .ref 1072] [] r_X11_hemming_8 rfl rfl (Nat.le_of_ble_eq_true rfl) (xm_rc q1 (by decide)) rfl q3 ?_
  refine xm_E_s r_X11_hemming_9 rfl rfl ?_
  refine xm_E_t q4 ?_
  refine xm_E_s r_X11_hemming_12 rfl rfl ?_
  refine xm_E_s r_X11_hemming_13 rfl rfl ?_
  refine xm_E_cv [.ref l0, .ref 1086] [] r_X11_hemming_14 rfl rfl (Nat.le_of_ble_eq_true rfl) (xm_rc q1 (by decide)) rfl q5 ?_
  refine xm_E_s r_X11_hemming_15 rfl rfl ?_
  refine xm_E_f q6 ?_
  refine xm_E_s r_X11_hemming_16 rfl rfl ?_
  exact xm_E_iret r_X11_hemming_17 rfl rfl
theorem p_X11_hemming_0_4 {X : xm_X} {P : List xm_M} {d : Nat} {h : xm_H} {l0 : Nat} {h0 : xm_H} {r0 : Int32} {h1 : xm_H} {r1 : Int32} (q0 : xm_V X P d 203 [.ref l0, .ref 1070] h (some (.int r0)) h0) (q1 : X.1[l0]? = some (.inr 10)) (q2 : r0 = (0 : Int32)) (q3 : xm_V X P d 203 [.ref l0, .ref 1072] h0 (some (.int r1)) h1) (q4 : ¬ (r1 = (0 : Int32))) : xm_E X P d co_X11_hemming 0 [some (.ref l0)] [] h (some (.int (1 : Int32))) h1 := by
  refine xm_E_s r_X11_hemming_0 rfl rfl ?_
  refine xm_E_s r_X11_hemming_1 rfl rfl ?_
  refine xm_E_cv [.ref l0, .ref 1070] [] r_X11_hemming_2 rfl rfl (Nat.le_of_ble_eq_true rfl) (xm_rc q1 (by decide)) rfl q0 ?_
  refine xm_E_s r_X11_hemming_3 rfl rfl ?_
  refine xm_E_t q2 ?_
  refine xm_E_s r_X11_hemming_6 rfl rfl ?_
  refine xm_E_s r_X11_hemming_7 rfl rfl ?_
  refine xm_E_cv [.ref l0, .ref 1072] [] r_X11_hemming_8 rfl rfl (Nat.le_of_ble_eq_true rfl) (xm_rc q1 (by decide)) rfl q3 ?_
  refine xm_E_s r_X11_hemming_9 rfl rfl ?_
  refine xm_E_f q4 ?_
  refine xm_E_s r_X11_hemming_10 rfl rfl ?_
  exact xm_E_iret r_X11_hemming_11 rfl rfl
theorem p_X11_hemming_0_5 {X : xm_X} {P : List xm_M} {d : Nat} {h : xm_H} {l0 : Nat} {h0 : xm_H} {r0 : Int32} (q0 : xm_V X P d 203 [.ref l0, .ref 1070] h (some (.int r0)) h0) (q1 : X.1[l0]? = some (.inr 10)) (q2 : ¬ (r0 = (0 : Int32))) : xm_E X P d co_X11_hemming 0 [some (.ref l0)] [] h (some (.int (0 : Int32))) h0 := by
  refine xm_E_s r_X11_hemming_0 rfl rfl ?_
  refine xm_E_s r_X11_hemming_1 rfl rfl ?_
  refine xm_E_cv [.ref l0, .ref 1070] [] r_X11_hemming_2 rfl rfl (Nat.le_of_ble_eq_true rfl) (xm_rc q1 (by decide)) rfl q0 ?_
  refine xm_E_s r_X11_hemming_3 rfl rfl ?_
  refine xm_E_f q2 ?_
  refine xm_E_s r_X11_hemming_4 rfl rfl ?_
  exact xm_E_iret r_X11_hemming_5 rfl rfl
theorem r_X11_state__0 : co_X11_state_[0]? = some ((0, .aload_n 0, 0, 0, 0, 0, 0, 0, []) : xm_I) := rfl
theorem r_X11_state__1 : co_X11_state_[1]? = some ((1, .invokevirtual 324, 1643, 216, 1, 10, 0, 0, []) : xm_I) := rfl
theorem r_X11_state__2 : co_X11_state_[2]? = some ((4, .ifCond .eq 26, 0, 0, 14, 0, 0, 0, []) : xm_I) := rfl
theorem r_X11_state__3 : co_X11_state_[3]? = some ((7, .iload_n 1, 0, 0, 0, 0, 0, 0, []) : xm_I) := rfl
theorem r_X11_state__4 : co_X11_state_[4]? = some ((8, .invokestatic 327, 1647, 217, 1, 0, 0, 0, []) : xm_I) := rfl
theorem r_X11_state__5 : co_X11_state_[5]? = some ((11, .ifCond .eq 19, 0, 0, 14, 0, 0, 0, []) : xm_I) := rfl
theorem r_X11_state__6 : co_X11_state_[6]? = some ((14, .aload_n 0, 0, 0, 0, 0, 0, 0, []) : xm_I) := rfl
theorem r_X11_state__7 : co_X11_state_[7]? = some ((15, .aload_n 0, 0, 0, 0, 0, 0, 0, []) : xm_I) := rfl
theorem r_X11_state__8 : co_X11_state_[8]? = some ((16, .invokevirtual 331, 1651, 218, 1, 10, 0, 0, []) : xm_I) := rfl
theorem r_X11_state__9 : co_X11_state_[9]? = some ((19, .iload_n 1, 0, 0, 0, 0, 0, 0, []) : xm_I) := rfl
theorem r_X11_state__10 : co_X11_state_[10]? = some ((20, .aload_n 0, 0, 0, 0, 0, 0, 0, []) : xm_I) := rfl
theorem r_X11_state__11 : co_X11_state_[11]? = some ((21, .invokevirtual 334, 1700, 232, 1, 10, 0, 0, []) : xm_I) := rfl
theorem r_X11_state__12 : co_X11_state_[12]? = some ((24, .invokevirtual 337, 1715, 236, 4, 10, 0, 0, []) : xm_I) := rfl
theorem r_X11_state__13 : co_X11_state_[13]? = some ((27, .goto 5, 0, 0, 15, 0, 0, 0, []) : xm_I) := rfl
theorem r_X11_state__14 : co_X11_state_[14]? = some ((30, .bipush (-100), 0, 0, 0, 0, (-100), 0, []) : xm_I) := rfl
theorem r_X11_state__15 : co_X11_state_[15]? = some ((32, .ireturn, 0, 0, 0, 0, 0, 0, []) : xm_I) := rfl
theorem p_X11_state__0_0 {X : xm_X} {P : List xm_M} {d : Nat} {h : xm_H} {l0 : Nat} {l1 : Int32} {h0 : xm_H} {r0 : Int32} (q0 : xm_V X P d 216 [.ref l0] h (some (.int r0)) h0) (q1 : X.1[l0]? = some (.inr 10)) (q2 : r0 = (0 : Int32)) : xm_E X P d co_X11_state_ 0 [some (.ref l0), some (.int l1)] [] h (some (.int (-100 : Int32))) h0 := by
  refine xm_E_s r_X11_state__0 rfl rfl ?_
  refine xm_E_cv [.ref l0] [] r_X11_state__1 rfl rfl (Nat.le_of_ble_eq_true rfl) (xm_rc q1 (by decide)) rfl q0 ?_
  refine xm_E_s r_X11_state__2 rfl rfl ?_
  refine xm_E_t q2 ?_
  refine xm_E_s r_X11_state__14 rfl rfl ?_
  exact xm_E_iret r_X11_state__15 rfl rfl
theorem p_X11_state__0_1 {X : xm_X} {P : List xm_M} {d : Nat} {h : xm_H} {l0 : Nat} {l1 : Int32} {h0 : xm_H} {r0 : Int32} {h1 : xm_H} {r1 : Int32} (q0 : xm_V X P d 216 [.ref l0] h (some (.int r0)) h0) (q1 : X.1[l0]? = some (.inr 10)) (q2 : ¬ (r0 = (0 : Int32))) (q3 : xm_V X P d 217 [.int l1] h0 (some (.int r1)) h1) (q4 : r1 = (0 : Int32)) : xm_E X P d co_X11_state_ 0 [some (.ref l0), some (.int l1)] [] h (some (.int (-100 : Int32))) h1 := by
  refine xm_E_s r_X11_state__0 rfl rfl ?_
  refine xm_E_cv [.ref l0] [] r_X11_state__1 rfl rfl (Nat.le_of_ble_eq_true rfl) (xm_rc q1 (by decide)) rfl q0 ?_
  refine xm_E_s r_X11_state__2 rfl rfl ?_
  refine xm_E_f q2 ?_
  refine xm_E_s r_X11_state__3 rfl rfl ?_
  refine xm_E_cs [.int l1] [] r_X11_state__4 rfl rfl rfl (Nat.le_of_ble_eq_true rfl) rfl q3 ?_
  refine xm_E_s r_X11_state__5 rfl rfl ?_
  refine xm_E_t q4 ?_
  refine xm_E_s r_X11_state__14 rfl rfl ?_
  exact xm_E_iret r_X11_state__15 rfl rfl
theorem p_X11_state__0_2 {X : xm_X} {P : List xm_M} {d : Nat} {h : xm_H} {l0 : Nat} {l1 : Int32} {h0 : xm_H} {r0 : Int32} {h1 : xm_H} {r1 : Int32} {h2 : xm_H} {r2 : Int32} {h3 : xm_H} {r3 : Int32} {h4 : xm_H} {r4 : Int32} (q0 : xm_V X P d 216 [.ref l0] h (some (.int r0)) h0) (q1 : X.1[l0]? = some (.inr 10)) (q2 : ¬ (r0 = (0 : Int32))) (q3 : xm_V X P d 217 [.int l1] h0 (some (.int r1)) h1) (q4 : ¬ (r1 = (0 : Int32))) (q5 : xm_V X P d 218 [.ref l0] h1 (some (.int r2)) h2) (q6 : xm_V X P d 232 [.ref l0] h2 (some (.int r3)) h3) (q7 : xm_V X P d 236 [.ref l0, .int r2, .int l1, .int r3] h3 (some (.int r4)) h4) : xm_E X P d co_X11_state_ 0 [some (.ref l0), some (.int l1)] [] h (some (.int r4)) h4 := by
  refine xm_E_s r_X11_state__0 rfl rfl ?_
  refine xm_E_cv [.ref l0] [] r_X11_state__1 rfl rfl (Nat.le_of_ble_eq_true rfl) (xm_rc q1 (by decide)) rfl q0 ?_
  refine xm_E_s r_X11_state__2 rfl rfl ?_
  refine xm_E_f q2 ?_
  refine xm_E_s r_X11_state__3 rfl rfl ?_
  refine xm_E_cs [.int l1] [] r_X11_state__4 rfl rfl rfl (Nat.le_of_ble_eq_true rfl) rfl q3 ?_
  refine xm_E_s r_X11_state__5 rfl rfl ?_
  refine xm_E_f q4 ?_
  refine xm_E_s r_X11_state__6 rfl rfl ?_
  refine xm_E_s r_X11_state__7 rfl rfl ?_
  refine xm_E_cv [.ref l0] [.ref l0] r_X11_state__8 rfl rfl (Nat.le_of_ble_eq_true rfl) (xm_rc q1 (by decide)) rfl q5 ?_
  refine xm_E_s r_X11_state__9 rfl rfl ?_
  refine xm_E_s r_X11_state__10 rfl rfl ?_
  refine xm_E_cv [.ref l0] [.int l1, .int r2, .ref l0] r_X11_state__11 rfl rfl (Nat.le_of_ble_eq_true rfl) (xm_rc q1 (by decide)) rfl q6 ?_
  refine xm_E_cv [.ref l0, .int r2, .int l1, .int r3] [] r_X11_state__12 rfl rfl (Nat.le_of_ble_eq_true rfl) (xm_rc q1 (by decide)) rfl q7 ?_
  refine xm_E_s r_X11_state__13 rfl rfl ?_
  exact xm_E_iret r_X11_state__15 rfl rfl
theorem r_X11_isLinen_0 : co_X11_isLinen[0]? = some ((0, .aload_n 0, 0, 0, 0, 0, 0, 0, []) : xm_I) := rfl
theorem r_X11_isLinen_1 : co_X11_isLinen[1]? = some ((1, .getfield 9, 1381, 10, 1, 2, 0, 0, []) : xm_I) := rfl
theorem r_X11_isLinen_2 : co_X11_isLinen[2]? = some ((4, .bipush 22, 0, 0, 0, 0, 22, 0, []) : xm_I) := rfl
theorem r_X11_isLinen_3 : co_X11_isLinen[3]? = some ((6, .iaload, 0, 0, 0, 0, 0, 0, []) : xm_I) := rfl
theorem r_X11_isLinen_4 : co_X11_isLinen[4]? = some ((7, .ifCond .le 7, 0, 0, 7, 0, 0, 0, []) : xm_I) := rfl
theorem r_X11_isLinen_5 : co_X11_isLinen[5]? = some ((10, .iconst 1, 0, 0, 0, 0, 1, 0, []) : xm_I) := rfl
theorem r_X11_isLinen_6 : co_X11_isLinen[6]? = some ((11, .goto 4, 0, 0, 8, 0, 0, 0, []) : xm_I) := rfl
theorem r_X11_isLinen_7 : co_X11_isLinen[7]? = some ((14, .iconst 0, 0, 0, 0, 0, 0, 0, []) : xm_I) := rfl
theorem r_X11_isLinen_8 : co_X11_isLinen[8]? = some ((15, .ireturn, 0, 0, 0, 3, 0, 0, []) : xm_I) := rfl
theorem p_X11_isLinen_0_0 {X : xm_X} {P : List xm_M} {d : Nat} {h : xm_H} {l0 : Nat} {v0 : Nat} {n1 : Nat} (q0 : X.1[l0]? = some (.inr 10)) (q1 : h.2.2 l0 1 = some v0) (q2 : X.1[v0]? = some (.inl (0, n1))) (q3 : 22 < n1) (q4 : h.1 v0 22 ≤ (0 : Int32)) : xm_E X P d co_X11_isLinen 0 [some (.ref l0)] [] h (some (.int (0 : Int32))) h := by
  refine xm_E_s r_X11_isLinen_0 rfl rfl ?_
  refine xm_E_s r_X11_isLinen_1 rfl (xm_T_gr rfl q0 rfl rfl q1) ?_
  refine xm_E_s r_X11_isLinen_2 rfl rfl ?_
  refine xm_E_s r_X11_isLinen_3 rfl (xm_T_iald rfl q2 (by decide) (fun e => e.elim (fun e => absurd e (by decide)) (fun e => Nat.not_le.mpr q3 e))) ?_
  refine xm_E_s r_X11_isLinen_4 rfl rfl ?_
  refine xm_E_t q4 ?_
  refine xm_E_s r_X11_isLinen_7 rfl rfl ?_
  exact xm_E_iret r_X11_isLinen_8 rfl rfl
theorem p_X11_isLinen_0_1 {X : xm_X} {P : List xm_M} {d : Nat} {h : xm_H} {l0 : Nat} {v0 : Nat} {n1 : Nat} (q0 : X.1[l0]? = some (.inr 10)) (q1 : h.2.2 l0 1 = some v0) (q2 : X.1[v0]? = some (.inl (0, n1))) (q3 : 22 < n1) (q4 : ¬ (h.1 v0 22 ≤ (0 : Int32))) : xm_E X P d co_X11_isLinen 0 [some (.ref l0)] [] h (some (.int (1 : Int32))) h := by
  refine xm_E_s r_X11_isLinen_0 rfl rfl ?_
  refine xm_E_s r_X11_isLinen_1 rfl (xm_T_gr rfl q0 rfl rfl q1) ?_
  refine xm_E_s r_X11_isLinen_2 rfl rfl ?_
  refine xm_E_s r_X11_isLinen_3 rfl (xm_T_iald rfl q2 (by decide) (fun e => e.elim (fun e => absurd e (by decide)) (fun e => Nat.not_le.mpr q3 e))) ?_
  refine xm_E_s r_X11_isLinen_4 rfl rfl ?_
  refine xm_E_f q4 ?_
  refine xm_E_s r_X11_isLinen_5 rfl rfl ?_
  refine xm_E_s r_X11_isLinen_6 rfl rfl ?_
  exact xm_E_iret r_X11_isLinen_8 rfl rfl
theorem r_X11_isOfState_0 : co_X11_isOfState[0]? = some ((0, .iload_n 0, 0, 0, 0, 0, 0, 0, []) : xm_I) := rfl
theorem r_X11_isOfState_1 : co_X11_isOfState[1]? = some ((1, .i2l, 0, 0, 0, 0, 0, 0, []) : xm_I) := rfl
theorem r_X11_isOfState_2 : co_X11_isOfState[2]? = some ((2, .lconst 0, 0, 0, 0, 0, 0, 0, []) : xm_I) := rfl
theorem r_X11_isOfState_3 : co_X11_isOfState[3]? = some ((3, .ldc2_w 320, 1650, 0, 0, 0, 0, 7, []) : xm_I) := rfl
theorem r_X11_isOfState_4 : co_X11_isOfState[4]? = some ((6, .invokestatic 84, 1503, 191, 3, 0, 0, 0, []) : xm_I) := rfl
theorem r_X11_isOfState_5 : co_X11_isOfState[5]? = some ((9, .ireturn, 0, 0, 0, 3, 0, 0, []) : xm_I) := rfl
theorem p_X11_isOfState_0_0 {X : xm_X} {P : List xm_M} {d : Nat} {h : xm_H} {l0 : Int32} {h0 : xm_H} {r0 : Int32} (q0 : xm_V X P d 191 [.long l0.toInt64, .long (0 : Int64), .long (7 : Int64)] h (some (.int r0)) h0) (q1 : xm_okr 3 r0 = true) : xm_E X P d co_X11_isOfState 0 [some (.int l0)] [] h (some (.int r0)) h0 := by
  refine xm_E_s r_X11_isOfState_0 rfl rfl ?_
  refine xm_E_s r_X11_isOfState_1 rfl rfl ?_
  refine xm_E_s r_X11_isOfState_2 rfl rfl ?_
  refine xm_E_s r_X11_isOfState_3 rfl rfl ?_
  refine xm_E_cs [.long l0.toInt64, .long (0 : Int64), .long (7 : Int64)] [] r_X11_isOfState_4 rfl rfl rfl (Nat.le_of_ble_eq_true rfl) rfl q0 ?_
  exact xm_E_iret r_X11_isOfState_5 rfl q1
theorem r_X11_now_0 : co_X11_now[0]? = some ((0, .aload_n 0, 0, 0, 0, 0, 0, 0, []) : xm_I) := rfl
theorem r_X11_now_1 : co_X11_now[1]? = some ((1, .invokevirtual 305, 1655, 219, 1, 10, 0, 0, []) : xm_I) := rfl
theorem r_X11_now_2 : co_X11_now[2]? = some ((4, .aload_n 0, 0, 0, 0, 0, 0, 0, []) : xm_I) := rfl
theorem r_X11_now_3 : co_X11_now[3]? = some ((5, .invokevirtual 308, 1659, 220, 1, 10, 0, 0, []) : xm_I) := rfl
theorem r_X11_now_4 : co_X11_now[4]? = some ((8, .istore_n 1, 0, 0, 0, 0, 0, 0, []) : xm_I) := rfl
theorem r_X11_now_5 : co_X11_now[5]? = some ((9, .iconst 0, 0, 0, 0, 0, 0, 0, []) : xm_I) := rfl
theorem r_X11_now_6 : co_X11_now[6]? = some ((10, .istore_n 2, 0, 0, 0, 0, 0, 0, []) : xm_I) := rfl
theorem r_X11_now_7 : co_X11_now[7]? = some ((11, .iload_n 2, 0, 0, 0, 0, 0, 0, []) : xm_I) := rfl
theorem r_X11_now_8 : co_X11_now[8]? = some ((12, .aload_n 0, 0, 0, 0, 0, 0, 0, []) : xm_I) := rfl
theorem r_X11_now_9 : co_X11_now[9]? = some ((13, .getfield 9, 1381, 10, 1, 2, 0, 0, []) : xm_I) := rfl
theorem r_X11_now_10 : co_X11_now[10]? = some ((16, .bipush 23, 0, 0, 0, 0, 23, 0, []) : xm_I) := rfl
theorem r_X11_now_11 : co_X11_now[11]? = some ((18, .iaload, 0, 0, 0, 0, 0, 0, []) : xm_I) := rfl
theorem r_X11_now_12 : co_X11_now[12]? = some ((19, .if_icmp .ge 24, 0, 0, 25, 0, 0, 0, []) : xm_I) := rfl
theorem r_X11_now_13 : co_X11_now[13]? = some ((22, .aload_n 0, 0, 0, 0, 0, 0, 0, []) : xm_I) := rfl
theorem r_X11_now_14 : co_X11_now[14]? = some ((23, .iload_n 1, 0, 0, 0, 0, 0, 0, []) : xm_I) := rfl
theorem r_X11_now_15 : co_X11_now[15]? = some ((24, .aload_n 0, 0, 0, 0, 0, 0, 0, []) : xm_I) := rfl
theorem r_X11_now_16 : co_X11_now[16]? = some ((25, .getfield 9, 1381, 10, 1, 2, 0, 0, []) : xm_I) := rfl
theorem r_X11_now_17 : co_X11_now[17]? = some ((28, .bipush 50, 0, 0, 0, 0, 50, 0, []) : xm_I) := rfl
theorem r_X11_now_18 : co_X11_now[18]? = some ((30, .iload_n 2, 0, 0, 0, 0, 0, 0, []) : xm_I) := rfl
theorem r_X11_now_19 : co_X11_now[19]? = some ((31, .iadd, 0, 0, 0, 0, 0, 0, []) : xm_I) := rfl
theorem r_X11_now_20 : co_X11_now[20]? = some ((32, .iaload, 0, 0, 0, 0, 0, 0, []) : xm_I) := rfl
theorem r_X11_now_21 : co_X11_now[21]? = some ((33, .invokevirtual 311, 1666, 222, 3, 10, 0, 0, []) : xm_I) := rfl
theorem r_X11_now_22 : co_X11_now[22]? = some ((36, .istore_n 1, 0, 0, 0, 0, 0, 0, []) : xm_I) := rfl
theorem r_X11_now_23 : co_X11_now[23]? = some ((37, .iinc 2 1, 0, 0, 0, 0, 1, 0, []) : xm_I) := rfl
theorem r_X11_now_24 : co_X11_now[24]? = some ((40, .goto (-29), 0, 0, 7, 0, 0, 0, []) : xm_I) := rfl
theorem r_X11_now_25 : co_X11_now[25]? = some ((43, .iload_n 1, 0, 0, 0, 0, 0, 0, []) : xm_I) := rfl
theorem r_X11_now_26 : co_X11_now[26]? = some ((44, .ireturn, 0, 0, 0, 0, 0, 0, []) : xm_I) := rfl
theorem p_X11_now_0_0 {X : xm_X} {P : List xm_M} {d : Nat} {h : xm_H} {l0 : Nat} {h0 : xm_H} {h1 : xm_H} {r1 : Int32} {ro : Option Value} {ho : xm_H} (q0 : xm_V X P d 219 [.ref l0] h none h0) (q1 : X.1[l0]? = some (.inr 10)) (q2 : xm_V X P d 220 [.ref l0] h0 (some (.int r1)) h1) (K : xm_E X P d co_X11_now 7 [some (.ref l0), some (.int r1), some (.int (0 : Int32))] [] h1 ro ho) : xm_E X P d co_X11_now 0 [some (.ref l0), none, none] [] h ro ho := by
  refine xm_E_s r_X11_now_0 rfl rfl ?_
  refine xm_E_cv [.ref l0] [] r_X11_now_1 rfl rfl (Nat.le_of_ble_eq_true rfl) (xm_rc q1 (by decide)) rfl q0 ?_
  refine xm_E_s r_X11_now_2 rfl rfl ?_
  refine xm_E_cv [.ref l0] [] r_X11_now_3 rfl rfl (Nat.le_of_ble_eq_true rfl) (xm_rc q1 (by decide)) rfl q2 ?_
  refine xm_E_s (ls1 := [some (.ref l0), some (.int r1), none]) r_X11_now_4 rfl rfl ?_
  refine xm_E_s r_X11_now_5 rfl rfl ?_
  refine xm_E_s (ls1 := [some (.ref l0), some (.int r1), some (.int (0 : Int32))]) r_X11_now_6 rfl rfl ?_
  exact K
theorem p_X11_now_7_0 {X : xm_X} {P : List xm_M} {d : Nat} {h : xm_H} {l0 : Nat} {l1 : Int32} {l2 : Int32} {v0 : Nat} {n1 : Nat} (q0 : X.1[l0]? = some (.inr 10)) (q1 : h.2.2 l0 1 = some v0) (q2 : X.1[v0]? = some (.inl (0, n1))) (q3 : 23 < n1) (q4 : h.1 v0 23 ≤ l2) : xm_E X P d co_X11_now 7 [some (.ref l0), some (.int l1), some (.int l2)] [] h (some (.int l1)) h := by
  refine xm_E_s r_X11_now_7 rfl rfl ?_
  refine xm_E_s r_X11_now_8 rfl rfl ?_
  refine xm_E_s r_X11_now_9 rfl (xm_T_gr rfl q0 rfl rfl q1) ?_
  refine xm_E_s r_X11_now_10 rfl rfl ?_
  refine xm_E_s r_X11_now_11 rfl (xm_T_iald rfl q2 (by decide) (fun e => e.elim (fun e => absurd e (by decide)) (fun e => Nat.not_le.mpr q3 e))) ?_
  refine xm_E_s r_X11_now_12 rfl rfl ?_
  refine xm_E_t q4 ?_
  refine xm_E_s r_X11_now_25 rfl rfl ?_
  exact xm_E_iret r_X11_now_26 rfl rfl
theorem p_X11_now_7_1 {X : xm_X} {P : List xm_M} {d : Nat} {h : xm_H} {l0 : Nat} {l1 : Int32} {l2 : Int32} {v0 : Nat} {n1 : Nat} {h2 : xm_H} {r2 : Int32} {ro : Option Value} {ho : xm_H} (q0 : X.1[l0]? = some (.inr 10)) (q1 : h.2.2 l0 1 = some v0) (q2 : X.1[v0]? = some (.inl (0, n1))) (q3 : 23 < n1) (q4 : ¬ (h.1 v0 23 ≤ l2)) (q5 : ¬ ((50 : Int32) + l2 < 0 ∨ n1 ≤ ((50 : Int32) + l2).toNatClampNeg)) (q6 : xm_V X P d 222 [.ref l0, .int l1, .int (h.1 v0 (((50 : Int32) + l2).toNatClampNeg))] h (some (.int r2)) h2) (K : xm_E X P d co_X11_now 7 [some (.ref l0), some (.int r2), some (.int (l2 + (1 : Int32)))] [] h2 ro ho) : xm_E X P d co_X11_now 7 [some (.ref l0), some (.int l1), some (.int l2)] [] h ro ho := by
  refine xm_E_s r_X11_now_7 rfl rfl ?_
  refine xm_E_s r_X11_now_8 rfl rfl ?_
  refine xm_E_s r_X11_now_9 rfl (xm_T_gr rfl q0 rfl rfl q1) ?_
  refine xm_E_s r_X11_now_10 rfl rfl ?_
  refine xm_E_s r_X11_now_11 rfl (xm_T_iald rfl q2 (by decide) (fun e => e.elim (fun e => absurd e (by decide)) (fun e => Nat.not_le.mpr q3 e))) ?_
  refine xm_E_s r_X11_now_12 rfl rfl ?_
  refine xm_E_f q4 ?_
  refine xm_E_s r_X11_now_13 rfl rfl ?_
  refine xm_E_s r_X11_now_14 rfl rfl ?_
  refine xm_E_s r_X11_now_15 rfl rfl ?_
  refine xm_E_s r_X11_now_16 rfl (xm_T_gr rfl q0 rfl rfl q1) ?_
  refine xm_E_s r_X11_now_17 rfl rfl ?_
  refine xm_E_s r_X11_now_18 rfl rfl ?_
  refine xm_E_s r_X11_now_19 rfl rfl ?_
  refine xm_E_s r_X11_now_20 rfl (xm_T_iald rfl q2 (by decide) q5) ?_
  refine xm_E_cv [.ref l0, .int l1, .int (h.1 v0 (((50 : Int32) + l2).toNatClampNeg))] [] r_X11_now_21 rfl rfl (Nat.le_of_ble_eq_true rfl) (xm_rc q0 (by decide)) rfl q6 ?_
  refine xm_E_s (ls1 := [some (.ref l0), some (.int r2), some (.int l2)]) r_X11_now_22 rfl rfl ?_
  refine xm_E_s (ls1 := [some (.ref l0), some (.int r2), some (.int (l2 + (1 : Int32)))]) r_X11_now_23 rfl rfl ?_
  refine xm_E_s r_X11_now_24 rfl rfl ?_
  exact K
theorem r_X11_asTold_0 : co_X11_asTold[0]? = some ((0, .aload_n 0, 0, 0, 0, 0, 0, 0, []) : xm_I) := rfl
theorem r_X11_asTold_1 : co_X11_asTold[1]? = some ((1, .aload_n 0, 0, 0, 0, 0, 0, 0, []) : xm_I) := rfl
theorem r_X11_asTold_2 : co_X11_asTold[2]? = some ((2, .getfield 9, 1381, 10, 1, 2, 0, 0, []) : xm_I) := rfl
theorem r_X11_asTold_3 : co_X11_asTold[3]? = some ((5, .iconst 3, 0, 0, 0, 0, 3, 0, []) : xm_I) := rfl
theorem r_X11_asTold_4 : co_X11_asTold[4]? = some ((6, .iaload, 0, 0, 0, 0, 0, 0, []) : xm_I) := rfl
theorem r_X11_asTold_5 : co_X11_asTold[5]? = some ((7, .putfield 271, 1395, 10, 15, 0, 0, 0, []) : xm_I) := rfl
theorem r_X11_asTold_6 : co_X11_asTold[6]? = some ((10, .aload_n 0, 0, 0, 0, 0, 0, 0, []) : xm_I) := rfl
theorem r_X11_asTold_7 : co_X11_asTold[7]? = some ((11, .iconst 0, 0, 0, 0, 0, 0, 0, []) : xm_I) := rfl
theorem r_X11_asTold_8 : co_X11_asTold[8]? = some ((12, .putfield 261, 1396, 10, 16, 3, 0, 0, []) : xm_I) := rfl
theorem r_X11_asTold_9 : co_X11_asTold[9]? = some ((15, .return_, 0, 0, 0, 0, 0, 0, []) : xm_I) := rfl
theorem p_X11_asTold_0_0 {X : xm_X} {P : List xm_M} {d : Nat} {h : xm_H} {l0 : Nat} {v0 : Nat} {n1 : Nat} (q0 : X.1[l0]? = some (.inr 10)) (q1 : h.2.2 l0 1 = some v0) (q2 : X.1[v0]? = some (.inl (0, n1))) (q3 : 3 < n1) : xm_E X P d co_X11_asTold 0 [some (.ref l0)] [] h none (xm_si (xm_si h l0 15 (h.1 v0 3)) l0 16 (0 : Int32)) := by
  refine xm_E_s r_X11_asTold_0 rfl rfl ?_
  refine xm_E_s r_X11_asTold_1 rfl rfl ?_
  refine xm_E_s r_X11_asTold_2 rfl (xm_T_gr rfl q0 rfl rfl q1) ?_
  refine xm_E_s r_X11_asTold_3 rfl rfl ?_
  refine xm_E_s r_X11_asTold_4 rfl (xm_T_iald rfl q2 (by decide) (fun e => e.elim (fun e => absurd e (by decide)) (fun e => Nat.not_le.mpr q3 e))) ?_
  refine xm_E_s r_X11_asTold_5 rfl (xm_T_pi rfl q0 rfl rfl) ?_
  refine xm_E_s r_X11_asTold_6 rfl rfl ?_
  refine xm_E_s r_X11_asTold_7 rfl rfl ?_
  refine xm_E_s r_X11_asTold_8 rfl (xm_T_pz rfl q0 rfl rfl (by decide)) ?_
  exact xm_E_ret r_X11_asTold_9 rfl
theorem r_X11_firstState_0 : co_X11_firstState[0]? = some ((0, .aload_n 0, 0, 0, 0, 0, 0, 0, []) : xm_I) := rfl
theorem r_X11_firstState_1 : co_X11_firstState[1]? = some ((1, .getfield 9, 1381, 10, 1, 2, 0, 0, []) : xm_I) := rfl
theorem r_X11_firstState_2 : co_X11_firstState[2]? = some ((4, .iconst 0, 0, 0, 0, 0, 0, 0, []) : xm_I) := rfl
theorem r_X11_firstState_3 : co_X11_firstState[3]? = some ((5, .iaload, 0, 0, 0, 0, 0, 0, []) : xm_I) := rfl
theorem r_X11_firstState_4 : co_X11_firstState[4]? = some ((6, .aload_n 0, 0, 0, 0, 0, 0, 0, []) : xm_I) := rfl
theorem r_X11_firstState_5 : co_X11_firstState[5]? = some ((7, .getfield 9, 1381, 10, 1, 2, 0, 0, []) : xm_I) := rfl
theorem r_X11_firstState_6 : co_X11_firstState[6]? = some ((10, .iconst 1, 0, 0, 0, 0, 1, 0, []) : xm_I) := rfl
theorem r_X11_firstState_7 : co_X11_firstState[7]? = some ((11, .iaload, 0, 0, 0, 0, 0, 0, []) : xm_I) := rfl
theorem r_X11_firstState_8 : co_X11_firstState[8]? = some ((12, .iconst 0, 0, 0, 0, 0, 0, 0, []) : xm_I) := rfl
theorem r_X11_firstState_9 : co_X11_firstState[9]? = some ((13, .iconst 0, 0, 0, 0, 0, 0, 0, []) : xm_I) := rfl
theorem r_X11_firstState_10 : co_X11_firstState[10]? = some ((14, .iconst 0, 0, 0, 0, 0, 0, 0, []) : xm_I) := rfl
theorem r_X11_firstState_11 : co_X11_firstState[11]? = some ((15, .invokestatic 257, 1663, 221, 5, 0, 0, 0, []) : xm_I) := rfl
theorem r_X11_firstState_12 : co_X11_firstState[12]? = some ((18, .ireturn, 0, 0, 0, 0, 0, 0, []) : xm_I) := rfl
theorem p_X11_firstState_0_0 {X : xm_X} {P : List xm_M} {d : Nat} {h : xm_H} {l0 : Nat} {v0 : Nat} {n1 : Nat} {h2 : xm_H} {r2 : Int32} (q0 : X.1[l0]? = some (.inr 10)) (q1 : h.2.2 l0 1 = some v0) (q2 : X.1[v0]? = some (.inl (0, n1))) (q3 : 0 < n1) (q4 : 1 < n1) (q5 : xm_V X P d 221 [.int (h.1 v0 0), .int (h.1 v0 1), .int (0 : Int32), .int (0 : Int32), .int (0 : Int32)] h (some (.int r2)) h2) : xm_E X P d co_X11_firstState 0 [some (.ref l0)] [] h (some (.int r2)) h2 := by
  refine xm_E_s r_X11_firstState_0 rfl rfl ?_
  refine xm_E_s r_X11_firstState_1 rfl (xm_T_gr rfl q0 rfl rfl q1) ?_
  refine xm_E_s r_X11_firstState_2 rfl rfl ?_
  refine xm_E_s r_X11_firstState_3 rfl (xm_T_iald rfl q2 (by decide) (fun e => e.elim (fun e => absurd e (by decide)) (fun e => Nat.not_le.mpr q3 e))) ?_
  refine xm_E_s r_X11_firstState_4 rfl rfl ?_
  refine xm_E_s r_X11_firstState_5 rfl (xm_T_gr rfl q0 rfl rfl q1) ?_
  refine xm_E_s r_X11_firstState_6 rfl rfl ?_
  refine xm_E_s r_X11_firstState_7 rfl (xm_T_iald rfl q2 (by decide) (fun e => e.elim (fun e => absurd e (by decide)) (fun e => Nat.not_le.mpr q4 e))) ?_
  refine xm_E_s r_X11_firstState_8 rfl rfl ?_
  refine xm_E_s r_X11_firstState_9 rfl rfl ?_
  refine xm_E_s r_X11_firstState_10 rfl rfl ?_
  refine xm_E_cs [.int (h.1 v0 0), .int (h.1 v0 1), .int (0 : Int32), .int (0 : Int32), .int (0 : Int32)] [] r_X11_firstState_11 rfl rfl rfl (Nat.le_of_ble_eq_true rfl) rfl q5 ?_
  exact xm_E_iret r_X11_firstState_12 rfl rfl
theorem r_X11_state_0 : co_X11_state[0]? = some ((0, .iload_n 0, 0, 0, 0, 0, 0, 0, []) : xm_I) := rfl
theorem r_X11_state_1 : co_X11_state[1]? = some ((1, .bipush 49, 0, 0, 0, 0, 49, 0, []) : xm_I) := rfl
theorem r_X11_state_2 : co_X11_state[2]? = some ((3, .imul, 0, 0, 0, 0, 0, 0, []) : xm_I) := rfl
theorem r_X11_state_3 : co_X11_state[3]? = some ((4, .iload_n 1, 0, 0, 0, 0, 0, 0, []) : xm_I) := rfl
theorem r_X11_state_4 : co_X11_state[4]? = some ((5, .iadd, 0, 0, 0, 0, 0, 0, []) : xm_I) := rfl
theorem r_X11_state_5 : co_X11_state[5]? = some ((6, .iconst 5, 0, 0, 0, 0, 5, 0, []) : xm_I) := rfl
theorem r_X11_state_6 : co_X11_state[6]? = some ((7, .imul, 0, 0, 0, 0, 0, 0, []) : xm_I) := rfl
theorem r_X11_state_7 : co_X11_state[7]? = some ((8, .iload_n 2, 0, 0, 0, 0, 0, 0, []) : xm_I) := rfl
theorem r_X11_state_8 : co_X11_state[8]? = some ((9, .iadd, 0, 0, 0, 0, 0, 0, []) : xm_I) := rfl
theorem r_X11_state_9 : co_X11_state[9]? = some ((10, .iconst 2, 0, 0, 0, 0, 2, 0, []) : xm_I) := rfl
theorem r_X11_state_10 : co_X11_state[10]? = some ((11, .imul, 0, 0, 0, 0, 0, 0, []) : xm_I) := rfl
theorem r_X11_state_11 : co_X11_state[11]? = some ((12, .iload_n 3, 0, 0, 0, 0, 0, 0, []) : xm_I) := rfl
theorem r_X11_state_12 : co_X11_state[12]? = some ((13, .iadd, 0, 0, 0, 0, 0, 0, []) : xm_I) := rfl
theorem r_X11_state_13 : co_X11_state[13]? = some ((14, .iconst 5, 0, 0, 0, 0, 5, 0, []) : xm_I) := rfl
theorem r_X11_state_14 : co_X11_state[14]? = some ((15, .imul, 0, 0, 0, 0, 0, 0, []) : xm_I) := rfl
theorem r_X11_state_15 : co_X11_state[15]? = some ((16, .iload 4, 0, 0, 0, 0, 0, 0, []) : xm_I) := rfl
theorem r_X11_state_16 : co_X11_state[16]? = some ((18, .iadd, 0, 0, 0, 0, 0, 0, []) : xm_I) := rfl
theorem r_X11_state_17 : co_X11_state[17]? = some ((19, .iconst 2, 0, 0, 0, 0, 2, 0, []) : xm_I) := rfl
theorem r_X11_state_18 : co_X11_state[18]? = some ((20, .iadd, 0, 0, 0, 0, 0, 0, []) : xm_I) := rfl
theorem r_X11_state_19 : co_X11_state[19]? = some ((21, .ireturn, 0, 0, 0, 0, 0, 0, []) : xm_I) := rfl
theorem p_X11_state_0_0 {X : xm_X} {P : List xm_M} {d : Nat} {h : xm_H} {l0 : Int32} {l1 : Int32} {l2 : Int32} {l3 : Int32} {l4 : Int32}  : xm_E X P d co_X11_state 0 [some (.int l0), some (.int l1), some (.int l2), some (.int l3), some (.int l4)] [] h (some (.int (((((((((l0 * (49 : Int32)) + l1) * (5 : Int32)) + l2) * (2 : Int32)) + l3) * (5 : Int32)) + l4) + (2 : Int32)))) h := by
  refine xm_E_s r_X11_state_0 rfl rfl ?_
  refine xm_E_s r_X11_state_1 rfl rfl ?_
  refine xm_E_s r_X11_state_2 rfl rfl ?_
  refine xm_E_s r_X11_state_3 rfl rfl ?_
  refine xm_E_s r_X11_state_4 rfl rfl ?_
  refine xm_E_s r_X11_state_5 rfl rfl ?_
  refine xm_E_s r_X11_state_6 rfl rfl ?_
  refine xm_E_s r_X11_state_7 rfl rfl ?_
  refine xm_E_s r_X11_state_8 rfl rfl ?_
  refine xm_E_s r_X11_state_9 rfl rfl ?_
  refine xm_E_s r_X11_state_10 rfl rfl ?_
  refine xm_E_s r_X11_state_11 rfl rfl ?_
  refine xm_E_s r_X11_state_12 rfl rfl ?_
  refine xm_E_s r_X11_state_13 rfl rfl ?_
  refine xm_E_s r_X11_state_14 rfl rfl ?_
  refine xm_E_s r_X11_state_15 rfl rfl ?_
  refine xm_E_s r_X11_state_16 rfl rfl ?_
  refine xm_E_s r_X11_state_17 rfl rfl ?_
  refine xm_E_s r_X11_state_18 rfl rfl ?_
  exact xm_E_iret r_X11_state_19 rfl rfl
theorem r_X11_done_0 : co_X11_done[0]? = some ((0, .iload_n 2, 0, 0, 0, 0, 0, 0, []) : xm_I) := rfl
theorem r_X11_done_1 : co_X11_done[1]? = some ((1, .bipush 12, 0, 0, 0, 0, 12, 0, []) : xm_I) := rfl
theorem r_X11_done_2 : co_X11_done[2]? = some ((3, .if_icmp .ne 5, 0, 0, 5, 0, 0, 0, []) : xm_I) := rfl
theorem r_X11_done_3 : co_X11_done[3]? = some ((6, .iload_n 1, 0, 0, 0, 0, 0, 0, []) : xm_I) := rfl
theorem r_X11_done_4 : co_X11_done[4]? = some ((7, .ireturn, 0, 0, 0, 0, 0, 0, []) : xm_I) := rfl
theorem r_X11_done_5 : co_X11_done[5]? = some ((8, .iload_n 2, 0, 0, 0, 0, 0, 0, []) : xm_I) := rfl
theorem r_X11_done_6 : co_X11_done[6]? = some ((9, .bipush 10, 0, 0, 0, 0, 10, 0, []) : xm_I) := rfl
theorem r_X11_done_7 : co_X11_done[7]? = some ((11, .if_icmp .ge 10, 0, 0, 13, 0, 0, 0, []) : xm_I) := rfl
theorem r_X11_done_8 : co_X11_done[8]? = some ((14, .aload_n 0, 0, 0, 0, 0, 0, 0, []) : xm_I) := rfl
theorem r_X11_done_9 : co_X11_done[9]? = some ((15, .iload_n 1, 0, 0, 0, 0, 0, 0, []) : xm_I) := rfl
theorem r_X11_done_10 : co_X11_done[10]? = some ((16, .iload_n 2, 0, 0, 0, 0, 0, 0, []) : xm_I) := rfl
theorem r_X11_done_11 : co_X11_done[11]? = some ((17, .invokevirtual 297, 1670, 223, 3, 10, 0, 0, []) : xm_I) := rfl
theorem r_X11_done_12 : co_X11_done[12]? = some ((20, .ireturn, 0, 0, 0, 0, 0, 0, []) : xm_I) := rfl
theorem r_X11_done_13 : co_X11_done[13]? = some ((21, .iload_n 1, 0, 0, 0, 0, 0, 0, []) : xm_I) := rfl
theorem r_X11_done_14 : co_X11_done[14]? = some ((22, .invokestatic 280, 1686, 228, 1, 0, 0, 0, []) : xm_I) := rfl
theorem r_X11_done_15 : co_X11_done[15]? = some ((25, .iload_n 2, 0, 0, 0, 0, 0, 0, []) : xm_I) := rfl
theorem r_X11_done_16 : co_X11_done[16]? = some ((26, .bipush 10, 0, 0, 0, 0, 10, 0, []) : xm_I) := rfl
theorem r_X11_done_17 : co_X11_done[17]? = some ((28, .if_icmp .ne 7, 0, 0, 20, 0, 0, 0, []) : xm_I) := rfl
theorem r_X11_done_18 : co_X11_done[18]? = some ((31, .iconst 1, 0, 0, 0, 0, 1, 0, []) : xm_I) := rfl
theorem r_X11_done_19 : co_X11_done[19]? = some ((32, .goto 4, 0, 0, 21, 0, 0, 0, []) : xm_I) := rfl
theorem r_X11_done_20 : co_X11_done[20]? = some ((35, .iconst (-1), 0, 0, 0, 0, (-1), 0, []) : xm_I) := rfl
theorem r_X11_done_21 : co_X11_done[21]? = some ((36, .iadd, 0, 0, 0, 0, 0, 0, []) : xm_I) := rfl
theorem r_X11_done_22 : co_X11_done[22]? = some ((37, .istore_n 3, 0, 0, 0, 0, 0, 0, []) : xm_I) := rfl
theorem r_X11_done_23 : co_X11_done[23]? = some ((38, .iload_n 1, 0, 0, 0, 0, 0, 0, []) : xm_I) := rfl
theorem r_X11_done_24 : co_X11_done[24]? = some ((39, .invokestatic 265, 1674, 224, 1, 0, 0, 0, []) : xm_I) := rfl
theorem r_X11_done_25 : co_X11_done[25]? = some ((42, .aload_n 0, 0, 0, 0, 0, 0, 0, []) : xm_I) := rfl
theorem r_X11_done_26 : co_X11_done[26]? = some ((43, .getfield 271, 1395, 10, 15, 0, 0, 0, []) : xm_I) := rfl
theorem r_X11_done_27 : co_X11_done[27]? = some ((46, .if_icmp .gt 30, 0, 0, 41, 0, 0, 0, []) : xm_I) := rfl
theorem r_X11_done_28 : co_X11_done[28]? = some ((49, .iload_n 1, 0, 0, 0, 0, 0, 0, []) : xm_I) := rfl
theorem r_X11_done_29 : co_X11_done[29]? = some ((50, .invokestatic 268, 1677, 225, 1, 0, 0, 0, []) : xm_I) := rfl
theorem r_X11_done_30 : co_X11_done[30]? = some ((53, .iconst 2, 0, 0, 0, 0, 2, 0, []) : xm_I) := rfl
theorem r_X11_done_31 : co_X11_done[31]? = some ((54, .irem, 0, 0, 0, 0, 0, 0, []) : xm_I) := rfl
theorem r_X11_done_32 : co_X11_done[32]? = some ((55, .ifCond .ne 21, 0, 0, 41, 0, 0, 0, []) : xm_I) := rfl
theorem r_X11_done_33 : co_X11_done[33]? = some ((58, .iload_n 3, 0, 0, 0, 0, 0, 0, []) : xm_I) := rfl
theorem r_X11_done_34 : co_X11_done[34]? = some ((59, .i2l, 0, 0, 0, 0, 0, 0, []) : xm_I) := rfl
theorem r_X11_done_35 : co_X11_done[35]? = some ((60, .ldc2_w 300, 1699, 0, 0, 0, 0, (-2), []) : xm_I) := rfl
theorem r_X11_done_36 : co_X11_done[36]? = some ((63, .ldc2_w 82, 1502, 0, 0, 0, 0, 2, []) : xm_I) := rfl
theorem r_X11_done_37 : co_X11_done[37]? = some ((66, .invokestatic 84, 1503, 191, 3, 0, 0, 0, []) : xm_I) := rfl
theorem r_X11_done_38 : co_X11_done[38]? = some ((69, .ifCond .eq 7, 0, 0, 41, 0, 0, 0, []) : xm_I) := rfl
theorem r_X11_done_39 : co_X11_done[39]? = some ((72, .iconst 1, 0, 0, 0, 0, 1, 0, []) : xm_I) := rfl
theorem r_X11_done_40 : co_X11_done[40]? = some ((73, .goto 4, 0, 0, 42, 0, 0, 0, []) : xm_I) := rfl
theorem r_X11_done_41 : co_X11_done[41]? = some ((76, .iconst 0, 0, 0, 0, 0, 0, 0, []) : xm_I) := rfl
theorem r_X11_done_42 : co_X11_done[42]? = some ((77, .istore 4, 0, 0, 0, 0, 0, 0, []) : xm_I) := rfl
theorem r_X11_done_43 : co_X11_done[43]? = some ((79, .iload 4, 0, 0, 0, 0, 0, 0, []) : xm_I) := rfl
theorem r_X11_done_44 : co_X11_done[44]? = some ((81, .ifCond .eq 26, 0, 0, 56, 0, 0, 0, []) : xm_I) := rfl
theorem r_X11_done_45 : co_X11_done[45]? = some ((84, .iload_n 1, 0, 0, 0, 0, 0, 0, []) : xm_I) := rfl
theorem r_X11_done_46 : co_X11_done[46]? = some ((85, .invokestatic 265, 1674, 224, 1, 0, 0, 0, []) : xm_I) := rfl
theorem r_X11_done_47 : co_X11_done[47]? = some ((88, .iload_n 1, 0, 0, 0, 0, 0, 0, []) : xm_I) := rfl
theorem r_X11_done_48 : co_X11_done[48]? = some ((89, .invokestatic 268, 1677, 225, 1, 0, 0, 0, []) : xm_I) := rfl
theorem r_X11_done_49 : co_X11_done[49]? = some ((92, .iload_n 1, 0, 0, 0, 0, 0, 0, []) : xm_I) := rfl
theorem r_X11_done_50 : co_X11_done[50]? = some ((93, .invokestatic 274, 1680, 226, 1, 0, 0, 0, []) : xm_I) := rfl
theorem r_X11_done_51 : co_X11_done[51]? = some ((96, .iload_n 1, 0, 0, 0, 0, 0, 0, []) : xm_I) := rfl
theorem r_X11_done_52 : co_X11_done[52]? = some ((97, .invokestatic 277, 1683, 227, 1, 0, 0, 0, []) : xm_I) := rfl
theorem r_X11_done_53 : co_X11_done[53]? = some ((100, .iload_n 3, 0, 0, 0, 0, 0, 0, []) : xm_I) := rfl
theorem r_X11_done_54 : co_X11_done[54]? = some ((101, .invokestatic 257, 1663, 221, 5, 0, 0, 0, []) : xm_I) := rfl
theorem r_X11_done_55 : co_X11_done[55]? = some ((104, .goto 4, 0, 0, 57, 0, 0, 0, []) : xm_I) := rfl
theorem r_X11_done_56 : co_X11_done[56]? = some ((107, .iconst (-1), 0, 0, 0, 0, (-1), 0, []) : xm_I) := rfl
theorem r_X11_done_57 : co_X11_done[57]? = some ((108, .ireturn, 0, 0, 0, 0, 0, 0, []) : xm_I) := rfl
theorem p_X11_done_0_0 {X : xm_X} {P : List xm_M} {d : Nat} {h : xm_H} {l0 : Nat} {l1 : Int32} {l2 : Int32} (q0 : l2 = (12 : Int32)) : xm_E X P d co_X11_done 0 [some (.ref l0), some (.int l1), some (.int l2), none, none] [] h (some (.int l1)) h := by
  refine xm_E_s r_X11_done_0 rfl rfl ?_
  refine xm_E_s r_X11_done_1 rfl rfl ?_
  refine xm_E_s r_X11_done_2 rfl rfl ?_
  refine xm_E_t q0 ?_
  refine xm_E_s r_X11_done_3 rfl rfl ?_
  exact xm_E_iret r_X11_done_4 rfl rfl
theorem p_X11_done_0_1 {X : xm_X} {P : List xm_M} {d : Nat} {h : xm_H} {l0 : Nat} {l1 : Int32} {l2 : Int32} {h0 : xm_H} {r0 : Int32} {ro : Option Value} {ho : xm_H} (q0 : ¬ (l2 = (12 : Int32))) (q1 : (10 : Int32) ≤ l2) (q2 : xm_V X P d 228 [.int l1] h (some (.int r0)) h0) (q3 : l2 = (10 : Int32)) (K : xm_E X P d co_X11_done 21 [some (.ref l0), some (.int l1), some (.int l2), none, none] [.int (1 : Int32), .int r0] h0 ro ho) : xm_E X P d co_X11_done 0 [some (.ref l0), some (.int l1), some (.int l2), none, none] [] h ro ho := by
  refine xm_E_s r_X11_done_0 rfl rfl ?_
  refine xm_E_s r_X11_done_1 rfl rfl ?_
  refine xm_E_s r_X11_done_2 rfl rfl ?_
  refine xm_E_f q0 ?_
  refine xm_E_s r_X11_done_5 rfl rfl ?_
  refine xm_E_s r_X11_done_6 rfl rfl ?_
  refine xm_E_s r_X11_done_7 rfl rfl ?_
  refine xm_E_t q1 ?_
  refine xm_E_s r_X11_done_13 rfl rfl ?_
  refine xm_E_cs [.int l1] [] r_X11_done_14 rfl rfl rfl (Nat.le_of_ble_eq_true rfl) rfl q2 ?_
  refine xm_E_s r_X11_done_15 rfl rfl ?_
  refine xm_E_s r_X11_done_16 rfl rfl ?_
  refine xm_E_s r_X11_done_17 rfl rfl ?_
  refine xm_E_t q3 ?_
  refine xm_E_s r_X11_done_18 rfl rfl ?_
  refine xm_E_s r_X11_done_19 rfl rfl ?_
  exact K
theorem p_X11_done_0_2 {X : xm_X} {P : List xm_M} {d : Nat} {h : xm_H} {l0 : Nat} {l1 : Int32} {l2 : Int32} {h0 : xm_H} {r0 : Int32} {ro : Option Value} {ho : xm_H} (q0 : ¬ (l2 = (12 : Int32))) (q1 : (10 : Int32) ≤ l2) (q2 : xm_V X P d 228 [.int l1] h (some (.int r0)) h0) (q3 : ¬ (l2 = (10 : Int32))) (K : xm_E X P d co_X11_done 21 [some (.ref l0), some (.int l1), some (.int l2), none, none] [.int (-1 : Int32), .int r0] h0 ro ho) : xm_E X P d co_X11_done 0 [some (.ref l0), some (.int l1), some (.int l2), none, none] [] h ro ho := by
  refine xm_E_s r_X11_done_0 rfl rfl ?_
  refine xm_E_s r_X11_done_1 rfl rfl ?_
  refine xm_E_s r_X11_done_2 rfl rfl ?_
  refine xm_E_f q0 ?_
  refine xm_E_s r_X11_done_5 rfl rfl ?_
  refine xm_E_s r_X11_done_6 rfl rfl ?_
  refine xm_E_s r_X11_done_7 rfl rfl ?_
  refine xm_E_t q1 ?_
  refine xm_E_s r_X11_done_13 rfl rfl ?_
  refine xm_E_cs [.int l1] [] r_X11_done_14 rfl rfl rfl (Nat.le_of_ble_eq_true rfl) rfl q2 ?_
  refine xm_E_s r_X11_done_15 rfl rfl ?_
  refine xm_E_s r_X11_done_16 rfl rfl ?_
  refine xm_E_s r_X11_done_17 rfl rfl ?_
  refine xm_E_f q3 ?_
  refine xm_E_s r_X11_done_20 rfl rfl ?_
  exact K
theorem p_X11_done_0_3 {X : xm_X} {P : List xm_M} {d : Nat} {h : xm_H} {l0 : Nat} {l1 : Int32} {l2 : Int32} {h0 : xm_H} {r0 : Int32} (q0 : ¬ (l2 = (12 : Int32))) (q1 : ¬ ((10 : Int32) ≤ l2)) (q2 : xm_V X P d 223 [.ref l0, .int l1, .int l2] h (some (.int r0)) h0) (q3 : X.1[l0]? = some (.inr 10)) : xm_E X P d co_X11_done 0 [some (.ref l0), some (.int l1), some (.int l2), none, none] [] h (some (.int r0)) h0 := by
  refine xm_E_s r_X11_done_0 rfl rfl ?_
  refine xm_E_s r_X11_done_1 rfl rfl ?_
  refine xm_E_s r_X11_done_2 rfl rfl ?_
  refine xm_E_f q0 ?_
  refine xm_E_s r_X11_done_5 rfl rfl ?_
  refine xm_E_s r_X11_done_6 rfl rfl ?_
  refine xm_E_s r_X11_done_7 rfl rfl ?_
  refine xm_E_f q1 ?_
  refine xm_E_s r_X11_done_8 rfl rfl ?_
  refine xm_E_s r_X11_done_9 rfl rfl ?_
  refine xm_E_s r_X11_done_10 rfl rfl ?_
  refine xm_E_cv [.ref l0, .int l1, .int l2] [] r_X11_done_11 rfl rfl (Nat.le_of_ble_eq_true rfl) (xm_rc q3 (by decide)) rfl q2 ?_
  exact xm_E_iret r_X11_done_12 rfl rfl
theorem p_X11_done_21_0 {X : xm_X} {P : List xm_M} {d : Nat} {h : xm_H} {l0 : Nat} {l1 : Int32} {l2 : Int32} {t0 : Int32} {t1 : Int32} {h0 : xm_H} {r0 : Int32} (q0 : xm_V X P d 224 [.int l1] h (some (.int r0)) h0) (q1 : X.1[l0]? = some (.inr 10)) (q2 : h0.1 l0 15 < r0) : xm_E X P d co_X11_done 21 [some (.ref l0), some (.int l1), some (.int l2), none, none] [.int t0, .int t1] h (some (.int (-1 : Int32))) h0 := by
  refine xm_E_s r_X11_done_21 rfl rfl ?_
  refine xm_E_s (ls1 := [some (.ref l0), some (.int l1), some (.int l2), some (.int (t1 + t0)), none]) r_X11_done_22 rfl rfl ?_
  refine xm_E_s r_X11_done_23 rfl rfl ?_
  refine xm_E_cs [.int l1] [] r_X11_done_24 rfl rfl rfl (Nat.le_of_ble_eq_true rfl) rfl q0 ?_
  refine xm_E_s r_X11_done_25 rfl rfl ?_
  refine xm_E_s r_X11_done_26 rfl (xm_T_gi rfl q1 rfl (Or.inl rfl)) ?_
  refine xm_E_s r_X11_done_27 rfl rfl ?_
  refine xm_E_t q2 ?_
  refine xm_E_s r_X11_done_41 rfl rfl ?_
  refine xm_E_s (ls1 := [some (.ref l0), some (.int l1), some (.int l2), some (.int (t1 + t0)), some (.int (0 : Int32))]) r_X11_done_42 rfl rfl ?_
  refine xm_E_s r_X11_done_43 rfl rfl ?_
  refine xm_E_s r_X11_done_44 rfl rfl ?_
  show xm_E X P d co_X11_done 56 _ _ _ _ _
  refine xm_E_s r_X11_done_56 rfl rfl ?_
  exact xm_E_iret r_X11_done_57 rfl rfl
theorem p_X11_done_21_1 {X : xm_X} {P : List xm_M} {d : Nat} {h : xm_H} {l0 : Nat} {l1 : Int32} {l2 : Int32} {t0 : Int32} {t1 : Int32} {h0 : xm_H} {r0 : Int32} {h1 : xm_H} {r1 : Int32} {h2 : xm_H} {r2 : Int32} (q0 : xm_V X P d 224 [.int l1] h (some (.int r0)) h0) (q1 : X.1[l0]? = some (.inr 10)) (q2 : ¬ (h0.1 l0 15 < r0)) (q3 : xm_V X P d 225 [.int l1] h0 (some (.int r1)) h1) (q4 : r1 - r1 / (2 : Int32) * (2 : Int32) = (0 : Int32)) (q5 : xm_V X P d 191 [.long ((t1 + t0).toInt64), .long (-2 : Int64), .long (2 : Int64)] h1 (some (.int r2)) h2) (q6 : r2 = (0 : Int32)) : xm_E X P d co_X11_done 21 [some (.ref l0), some (.int l1), some (.int l2), none, none] [.int t0, .int t1] h (some (.int (-1 : Int32))) h2 := by
  refine xm_E_s r_X11_done_21 rfl rfl ?_
  refine xm_E_s (ls1 := [some (.ref l0), some (.int l1), some (.int l2), some (.int (t1 + t0)), none]) r_X11_done_22 rfl rfl ?_
  refine xm_E_s r_X11_done_23 rfl rfl ?_
  refine xm_E_cs [.int l1] [] r_X11_done_24 rfl rfl rfl (Nat.le_of_ble_eq_true rfl) rfl q0 ?_
  refine xm_E_s r_X11_done_25 rfl rfl ?_
  refine xm_E_s r_X11_done_26 rfl (xm_T_gi rfl q1 rfl (Or.inl rfl)) ?_
  refine xm_E_s r_X11_done_27 rfl rfl ?_
  refine xm_E_f q2 ?_
  refine xm_E_s r_X11_done_28 rfl rfl ?_
  refine xm_E_cs [.int l1] [] r_X11_done_29 rfl rfl rfl (Nat.le_of_ble_eq_true rfl) rfl q3 ?_
  refine xm_E_s r_X11_done_30 rfl rfl ?_
  refine xm_E_s r_X11_done_31 rfl (xm_T_irem rfl (by decide)) ?_
  refine xm_E_s r_X11_done_32 rfl rfl ?_
  refine xm_E_t q4 ?_
  refine xm_E_s r_X11_done_33 rfl rfl ?_
  refine xm_E_s r_X11_done_34 rfl rfl ?_
  refine xm_E_s r_X11_done_35 rfl rfl ?_
  refine xm_E_s r_X11_done_36 rfl rfl ?_
  refine xm_E_cs [.long ((t1 + t0).toInt64), .long (-2 : Int64), .long (2 : Int64)] [] r_X11_done_37 rfl rfl rfl (Nat.le_of_ble_eq_true rfl) rfl q5 ?_
  refine xm_E_s r_X11_done_38 rfl rfl ?_
  refine xm_E_t q6 ?_
  refine xm_E_s r_X11_done_41 rfl rfl ?_
  refine xm_E_s (ls1 := [some (.ref l0), some (.int l1), some (.int l2), some (.int (t1 + t0)), some (.int (0 : Int32))]) r_X11_done_42 rfl rfl ?_
  refine xm_E_s r_X11_done_43 rfl rfl ?_
  refine xm_E_s r_X11_done_44 rfl rfl ?_
  show xm_E X P d co_X11_done 56 _ _ _ _ _
  refine xm_E_s r_X11_done_56 rfl rfl ?_
  exact xm_E_iret r_X11_done_57 rfl rfl
theorem p_X11_done_21_2 {X : xm_X} {P : List xm_M} {d : Nat} {h : xm_H} {l0 : Nat} {l1 : Int32} {l2 : Int32} {t0 : Int32} {t1 : Int32} {h0 : xm_H} {r0 : Int32} {h1 : xm_H} {r1 : Int32} {h2 : xm_H} {r2 : Int32} {h3 : xm_H} {r3 : Int32} {h4 : xm_H} {r4 : Int32} {h5 : xm_H} {r5 : Int32} {h6 : xm_H} {r6 : Int32} {h7 : xm_H} {r7 : Int32} (q0 : xm_V X P d 224 [.int l1] h (some (.int r0)) h0) (q1 : X.1[l0]? = some (.inr 10)) (q2 : ¬ (h0.1 l0 15 < r0)) (q3 : xm_V X P d 225 [.int l1] h0 (some (.int r1)) h1) (q4 : r1 - r1 / (2 : Int32) * (2 : Int32) = (0 : Int32)) (q5 : xm_V X P d 191 [.long ((t1 + t0).toInt64), .long (-2 : Int64), .long (2 : Int64)] h1 (some (.int r2)) h2) (q6 : ¬ (r2 = (0 : Int32))) (q7 : xm_V X P d 224 [.int l1] h2 (some (.int r3)) h3) (q8 : xm_V X P d 225 [.int l1] h3 (some (.int r4)) h4) (q9 : xm_V X P d 226 [.int l1] h4 (some (.int r5)) h5) (q10 : xm_V X P d 227 [.int l1] h5 (some (.int r6)) h6) (q11 : xm_V X P d 221 [.int r3, .int r4, .int r5, .int r6, .int (t1 + t0)] h6 (some (.int r7)) h7) : xm_E X P d co_X11_done 21 [some (.ref l0), some (.int l1), some (.int l2), none, none] [.int t0, .int t1] h (some (.int r7)) h7 := by
  refine xm_E_s r_X11_done_21 rfl rfl ?_
  refine xm_E_s (ls1 := [some (.ref l0), some (.int l1), some (.int l2), some (.int (t1 + t0)), none]) r_X11_done_22 rfl rfl ?_
  refine xm_E_s r_X11_done_23 rfl rfl ?_
  refine xm_E_cs [.int l1] [] r_X11_done_24 rfl rfl rfl (Nat.le_of_ble_eq_true rfl) rfl q0 ?_
  refine xm_E_s r_X11_done_25 rfl rfl ?_
  refine xm_E_s r_X11_done_26 rfl (xm_T_gi rfl q1 rfl (Or.inl rfl)) ?_
  refine xm_E_s r_X11_done_27 rfl rfl ?_
  refine xm_E_f q2 ?_
  refine xm_E_s r_X11_done_28 rfl rfl ?_
  refine xm_E_cs [.int l1] [] r_X11_done_29 rfl rfl rfl (Nat.le_of_ble_eq_true rfl) rfl q3 ?_
  refine xm_E_s r_X11_done_30 rfl rfl ?_
  refine xm_E_s r_X11_done_31 rfl (xm_T_irem rfl (by decide)) ?_
  refine xm_E_s r_X11_done_32 rfl rfl ?_
  refine xm_E_t q4 ?_
  refine xm_E_s r_X11_done_33 rfl rfl ?_
  refine xm_E_s r_X11_done_34 rfl rfl ?_
  refine xm_E_s r_X11_done_35 rfl rfl ?_
  refine xm_E_s r_X11_done_36 rfl rfl ?_
  refine xm_E_cs [.long ((t1 + t0).toInt64), .long (-2 : Int64), .long (2 : Int64)] [] r_X11_done_37 rfl rfl rfl (Nat.le_of_ble_eq_true rfl) rfl q5 ?_
  refine xm_E_s r_X11_done_38 rfl rfl ?_
  refine xm_E_f q6 ?_
  refine xm_E_s r_X11_done_39 rfl rfl ?_
  refine xm_E_s r_X11_done_40 rfl rfl ?_
  refine xm_E_s (ls1 := [some (.ref l0), some (.int l1), some (.int l2), some (.int (t1 + t0)), some (.int (1 : Int32))]) r_X11_done_42 rfl rfl ?_
  refine xm_E_s r_X11_done_43 rfl rfl ?_
  refine xm_E_s r_X11_done_44 rfl rfl ?_
  show xm_E X P d co_X11_done 45 _ _ _ _ _
  refine xm_E_s r_X11_done_45 rfl rfl ?_
  refine xm_E_cs [.int l1] [] r_X11_done_46 rfl rfl rfl (Nat.le_of_ble_eq_true rfl) rfl q7 ?_
  refine xm_E_s r_X11_done_47 rfl rfl ?_
  refine xm_E_cs [.int l1] [.int r3] r_X11_done_48 rfl rfl rfl (Nat.le_of_ble_eq_true rfl) rfl q8 ?_
  refine xm_E_s r_X11_done_49 rfl rfl ?_
  refine xm_E_cs [.int l1] [.int r4, .int r3] r_X11_done_50 rfl rfl rfl (Nat.le_of_ble_eq_true rfl) rfl q9 ?_
  refine xm_E_s r_X11_done_51 rfl rfl ?_
  refine xm_E_cs [.int l1] [.int r5, .int r4, .int r3] r_X11_done_52 rfl rfl rfl (Nat.le_of_ble_eq_true rfl) rfl q10 ?_
  refine xm_E_s r_X11_done_53 rfl rfl ?_
  refine xm_E_cs [.int r3, .int r4, .int r5, .int r6, .int (t1 + t0)] [] r_X11_done_54 rfl rfl rfl (Nat.le_of_ble_eq_true rfl) rfl q11 ?_
  refine xm_E_s r_X11_done_55 rfl rfl ?_
  exact xm_E_iret r_X11_done_57 rfl rfl
theorem p_X11_done_21_3 {X : xm_X} {P : List xm_M} {d : Nat} {h : xm_H} {l0 : Nat} {l1 : Int32} {l2 : Int32} {t0 : Int32} {t1 : Int32} {h0 : xm_H} {r0 : Int32} {h1 : xm_H} {r1 : Int32} (q0 : xm_V X P d 224 [.int l1] h (some (.int r0)) h0) (q1 : X.1[l0]? = some (.inr 10)) (q2 : ¬ (h0.1 l0 15 < r0)) (q3 : xm_V X P d 225 [.int l1] h0 (some (.int r1)) h1) (q4 : ¬ (r1 - r1 / (2 : Int32) * (2 : Int32) = (0 : Int32))) : xm_E X P d co_X11_done 21 [some (.ref l0), some (.int l1), some (.int l2), none, none] [.int t0, .int t1] h (some (.int (-1 : Int32))) h1 := by
  refine xm_E_s r_X11_done_21 rfl rfl ?_
  refine xm_E_s (ls1 := [some (.ref l0), some (.int l1), some (.int l2), some (.int (t1 + t0)), none]) r_X11_done_22 rfl rfl ?_
  refine xm_E_s r_X11_done_23 rfl rfl ?_
  refine xm_E_cs [.int l1] [] r_X11_done_24 rfl rfl rfl (Nat.le_of_ble_eq_true rfl) rfl q0 ?_
  refine xm_E_s r_X11_done_25 rfl rfl ?_
  refine xm_E_s r_X11_done_26 rfl (xm_T_gi rfl q1 rfl (Or.inl rfl)) ?_
  refine xm_E_s r_X11_done_27 rfl rfl ?_
  refine xm_E_f q2 ?_
  refine xm_E_s r_X11_done_28 rfl rfl ?_
  refine xm_E_cs [.int l1] [] r_X11_done_29 rfl rfl rfl (Nat.le_of_ble_eq_true rfl) rfl q3 ?_
  refine xm_E_s r_X11_done_30 rfl rfl ?_
  refine xm_E_s r_X11_done_31 rfl (xm_T_irem rfl (by decide)) ?_
  refine xm_E_s r_X11_done_32 rfl rfl ?_
  refine xm_E_f q4 ?_
  refine xm_E_s r_X11_done_41 rfl rfl ?_
  refine xm_E_s (ls1 := [some (.ref l0), some (.int l1), some (.int l2), some (.int (t1 + t0)), some (.int (0 : Int32))]) r_X11_done_42 rfl rfl ?_
  refine xm_E_s r_X11_done_43 rfl rfl ?_
  refine xm_E_s r_X11_done_44 rfl rfl ?_
  show xm_E X P d co_X11_done 56 _ _ _ _ _
  refine xm_E_s r_X11_done_56 rfl rfl ?_
  exact xm_E_iret r_X11_done_57 rfl rfl
theorem r_X11_moved_0 : co_X11_moved[0]? = some ((0, .iload_n 1, 0, 0, 0, 0, 0, 0, []) : xm_I) := rfl
theorem r_X11_moved_1 : co_X11_moved[1]? = some ((1, .invokestatic 265, 1674, 224, 1, 0, 0, 0, []) : xm_I) := rfl
theorem r_X11_moved_2 : co_X11_moved[2]? = some ((4, .istore_n 3, 0, 0, 0, 0, 0, 0, []) : xm_I) := rfl
theorem r_X11_moved_3 : co_X11_moved[3]? = some ((5, .iload_n 1, 0, 0, 0, 0, 0, 0, []) : xm_I) := rfl
theorem r_X11_moved_4 : co_X11_moved[4]? = some ((6, .invokestatic 268, 1677, 225, 1, 0, 0, 0, []) : xm_I) := rfl
theorem r_X11_moved_5 : co_X11_moved[5]? = some ((9, .istore 4, 0, 0, 0, 0, 0, 0, []) : xm_I) := rfl
theorem r_X11_moved_6 : co_X11_moved[6]? = some ((11, .iload_n 1, 0, 0, 0, 0, 0, 0, []) : xm_I) := rfl
theorem r_X11_moved_7 : co_X11_moved[7]? = some ((12, .invokestatic 274, 1680, 226, 1, 0, 0, 0, []) : xm_I) := rfl
theorem r_X11_moved_8 : co_X11_moved[8]? = some ((15, .istore 5, 0, 0, 0, 0, 0, 0, []) : xm_I) := rfl
theorem r_X11_moved_9 : co_X11_moved[9]? = some ((17, .iload_n 1, 0, 0, 0, 0, 0, 0, []) : xm_I) := rfl
theorem r_X11_moved_10 : co_X11_moved[10]? = some ((18, .invokestatic 277, 1683, 227, 1, 0, 0, 0, []) : xm_I) := rfl
theorem r_X11_moved_11 : co_X11_moved[11]? = some ((21, .istore 6, 0, 0, 0, 0, 0, 0, []) : xm_I) := rfl
theorem r_X11_moved_12 : co_X11_moved[12]? = some ((23, .iload_n 1, 0, 0, 0, 0, 0, 0, []) : xm_I) := rfl
theorem r_X11_moved_13 : co_X11_moved[13]? = some ((24, .invokestatic 280, 1686, 228, 1, 0, 0, 0, []) : xm_I) := rfl
theorem r_X11_moved_14 : co_X11_moved[14]? = some ((27, .istore 7, 0, 0, 0, 0, 0, 0, []) : xm_I) := rfl
theorem r_X11_moved_15 : co_X11_moved[15]? = some ((29, .iload_n 2, 0, 0, 0, 0, 0, 0, []) : xm_I) := rfl
theorem r_X11_moved_16 : co_X11_moved[16]? = some ((30, .bipush 9, 0, 0, 0, 0, 9, 0, []) : xm_I) := rfl
theorem r_X11_moved_17 : co_X11_moved[17]? = some ((32, .if_icmp .ne 39, 0, 0, 37, 0, 0, 0, []) : xm_I) := rfl
theorem r_X11_moved_18 : co_X11_moved[18]? = some ((35, .iload 7, 0, 0, 0, 0, 0, 0, []) : xm_I) := rfl
theorem r_X11_moved_19 : co_X11_moved[19]? = some ((37, .ifCond .ne 7, 0, 0, 22, 0, 0, 0, []) : xm_I) := rfl
theorem r_X11_moved_20 : co_X11_moved[20]? = some ((40, .iconst (-1), 0, 0, 0, 0, (-1), 0, []) : xm_I) := rfl
theorem r_X11_moved_21 : co_X11_moved[21]? = some ((41, .goto 29, 0, 0, 36, 0, 0, 0, []) : xm_I) := rfl
theorem r_X11_moved_22 : co_X11_moved[22]? = some ((44, .iload_n 3, 0, 0, 0, 0, 0, 0, []) : xm_I) := rfl
theorem r_X11_moved_23 : co_X11_moved[23]? = some ((45, .iload 4, 0, 0, 0, 0, 0, 0, []) : xm_I) := rfl
theorem r_X11_moved_24 : co_X11_moved[24]? = some ((47, .iload 5, 0, 0, 0, 0, 0, 0, []) : xm_I) := rfl
theorem r_X11_moved_25 : co_X11_moved[25]? = some ((49, .iload 6, 0, 0, 0, 0, 0, 0, []) : xm_I) := rfl
theorem r_X11_moved_26 : co_X11_moved[26]? = some ((51, .iload 7, 0, 0, 0, 0, 0, 0, []) : xm_I) := rfl
theorem r_X11_moved_27 : co_X11_moved[27]? = some ((53, .ifCond .le 10, 0, 0, 32, 0, 0, 0, []) : xm_I) := rfl
theorem r_X11_moved_28 : co_X11_moved[28]? = some ((56, .iload 7, 0, 0, 0, 0, 0, 0, []) : xm_I) := rfl
theorem r_X11_moved_29 : co_X11_moved[29]? = some ((58, .iconst 1, 0, 0, 0, 0, 1, 0, []) : xm_I) := rfl
theorem r_X11_moved_30 : co_X11_moved[30]? = some ((59, .isub, 0, 0, 0, 0, 0, 0, []) : xm_I) := rfl
theorem r_X11_moved_31 : co_X11_moved[31]? = some ((60, .goto 7, 0, 0, 35, 0, 0, 0, []) : xm_I) := rfl
theorem r_X11_moved_32 : co_X11_moved[32]? = some ((63, .iload 7, 0, 0, 0, 0, 0, 0, []) : xm_I) := rfl
theorem r_X11_moved_33 : co_X11_moved[33]? = some ((65, .iconst 1, 0, 0, 0, 0, 1, 0, []) : xm_I) := rfl
theorem r_X11_moved_34 : co_X11_moved[34]? = some ((66, .iadd, 0, 0, 0, 0, 0, 0, []) : xm_I) := rfl
theorem r_X11_moved_35 : co_X11_moved[35]? = some ((67, .invokestatic 257, 1663, 221, 5, 0, 0, 0, []) : xm_I) := rfl
theorem r_X11_moved_36 : co_X11_moved[36]? = some ((70, .ireturn, 0, 0, 0, 0, 0, 0, []) : xm_I) := rfl
theorem r_X11_moved_37 : co_X11_moved[37]? = some ((71, .iload 7, 0, 0, 0, 0, 0, 0, []) : xm_I) := rfl
theorem r_X11_moved_38 : co_X11_moved[38]? = some ((73, .ifCond .ne 29, 0, 0, 53, 0, 0, 0, []) : xm_I) := rfl
theorem r_X11_moved_39 : co_X11_moved[39]? = some ((76, .aload_n 0, 0, 0, 0, 0, 0, 0, []) : xm_I) := rfl
theorem r_X11_moved_40 : co_X11_moved[40]? = some ((77, .iload_n 1, 0, 0, 0, 0, 0, 0, []) : xm_I) := rfl
theorem r_X11_moved_41 : co_X11_moved[41]? = some ((78, .iload_n 2, 0, 0, 0, 0, 0, 0, []) : xm_I) := rfl
theorem r_X11_moved_42 : co_X11_moved[42]? = some ((79, .invokevirtual 283, 1689, 229, 3, 10, 0, 0, []) : xm_I) := rfl
theorem r_X11_moved_43 : co_X11_moved[43]? = some ((82, .ifCond .eq 20, 0, 0, 53, 0, 0, 0, []) : xm_I) := rfl
theorem r_X11_moved_44 : co_X11_moved[44]? = some ((85, .aload_n 0, 0, 0, 0, 0, 0, 0, []) : xm_I) := rfl
theorem r_X11_moved_45 : co_X11_moved[45]? = some ((86, .getfield 261, 1396, 10, 16, 3, 0, 0, []) : xm_I) := rfl
theorem r_X11_moved_46 : co_X11_moved[46]? = some ((89, .ifCond .eq 15, 0, 0, 55, 0, 0, 0, []) : xm_I) := rfl
theorem r_X11_moved_47 : co_X11_moved[47]? = some ((92, .iload_n 2, 0, 0, 0, 0, 0, 0, []) : xm_I) := rfl
theorem r_X11_moved_48 : co_X11_moved[48]? = some ((93, .iconst 4, 0, 0, 0, 0, 4, 0, []) : xm_I) := rfl
theorem r_X11_moved_49 : co_X11_moved[49]? = some ((94, .if_icmp .eq 8, 0, 0, 53, 0, 0, 0, []) : xm_I) := rfl
theorem r_X11_moved_50 : co_X11_moved[50]? = some ((97, .iload_n 2, 0, 0, 0, 0, 0, 0, []) : xm_I) := rfl
theorem r_X11_moved_51 : co_X11_moved[51]? = some ((98, .iconst 5, 0, 0, 0, 0, 5, 0, []) : xm_I) := rfl
theorem r_X11_moved_52 : co_X11_moved[52]? = some ((99, .if_icmp .ne 5, 0, 0, 55, 0, 0, 0, []) : xm_I) := rfl
theorem r_X11_moved_53 : co_X11_moved[53]? = some ((102, .iconst (-1), 0, 0, 0, 0, (-1), 0, []) : xm_I) := rfl
theorem r_X11_moved_54 : co_X11_moved[54]? = some ((103, .ireturn, 0, 0, 0, 0, 0, 0, []) : xm_I) := rfl
theorem r_X11_moved_55 : co_X11_moved[55]? = some ((104, .iload_n 2, 0, 0, 0, 0, 0, 0, []) : xm_I) := rfl
theorem r_X11_moved_56 : co_X11_moved[56]? = some ((105, .tableswitch 313 0 7 #[47, 83, 118, 160, 196, 230, 272, 291], 0, 0, 214, 0, 0, 0, [57, 78, 98, 122, 144, 164, 189, 201]) : xm_I) := rfl
theorem r_X11_moved_57 : co_X11_moved[57]? = some ((152, .iload 4, 0, 0, 0, 0, 0, 0, []) : xm_I) := rfl
theorem r_X11_moved_58 : co_X11_moved[58]? = some ((154, .iconst 2, 0, 0, 0, 0, 2, 0, []) : xm_I) := rfl
theorem r_X11_moved_59 : co_X11_moved[59]? = some ((155, .irem, 0, 0, 0, 0, 0, 0, []) : xm_I) := rfl
theorem r_X11_moved_60 : co_X11_moved[60]? = some ((156, .ifCond .eq 7, 0, 0, 63, 0, 0, 0, []) : xm_I) := rfl
theorem r_X11_moved_61 : co_X11_moved[61]? = some ((159, .iconst (-1), 0, 0, 0, 0, (-1), 0, []) : xm_I) := rfl
theorem r_X11_moved_62 : co_X11_moved[62]? = some ((160, .goto 27, 0, 0, 77, 0, 0, 0, []) : xm_I) := rfl
theorem r_X11_moved_63 : co_X11_moved[63]? = some ((163, .iload_n 3, 0, 0, 0, 0, 0, 0, []) : xm_I) := rfl
theorem r_X11_moved_64 : co_X11_moved[64]? = some ((164, .iload 4, 0, 0, 0, 0, 0, 0, []) : xm_I) := rfl
theorem r_X11_moved_65 : co_X11_moved[65]? = some ((166, .iconst 2, 0, 0, 0, 0, 2, 0, []) : xm_I) := rfl
theorem r_X11_moved_66 : co_X11_moved[66]? = some ((167, .idiv, 0, 0, 0, 0, 0, 0, []) : xm_I) := rfl
theorem r_X11_moved_67 : co_X11_moved[67]? = some ((168, .iload 5, 0, 0, 0, 0, 0, 0, []) : xm_I) := rfl
theorem r_X11_moved_68 : co_X11_moved[68]? = some ((170, .ifCond .ne 7, 0, 0, 71, 0, 0, 0, []) : xm_I) := rfl
theorem r_X11_moved_69 : co_X11_moved[69]? = some ((173, .iconst 1, 0, 0, 0, 0, 1, 0, []) : xm_I) := rfl
theorem r_X11_moved_70 : co_X11_moved[70]? = some ((174, .goto 5, 0, 0, 72, 0, 0, 0, []) : xm_I) := rfl
theorem r_X11_moved_71 : co_X11_moved[71]? = some ((177, .iload 5, 0, 0, 0, 0, 0, 0, []) : xm_I) := rfl
theorem r_X11_moved_72 : co_X11_moved[72]? = some ((179, .iconst 1, 0, 0, 0, 0, 1, 0, []) : xm_I) := rfl
theorem r_X11_moved_73 : co_X11_moved[73]? = some ((180, .iload 6, 0, 0, 0, 0, 0, 0, []) : xm_I) := rfl
theorem r_X11_moved_74 : co_X11_moved[74]? = some ((182, .isub, 0, 0, 0, 0, 0, 0, []) : xm_I) := rfl
theorem r_X11_moved_75 : co_X11_moved[75]? = some ((183, .iconst 0, 0, 0, 0, 0, 0, 0, []) : xm_I) := rfl
theorem r_X11_moved_76 : co_X11_moved[76]? = some ((184, .invokestatic 257, 1663, 221, 5, 0, 0, 0, []) : xm_I) := rfl
theorem r_X11_moved_77 : co_X11_moved[77]? = some ((187, .ireturn, 0, 0, 0, 0, 0, 0, []) : xm_I) := rfl
theorem r_X11_moved_78 : co_X11_moved[78]? = some ((188, .iload 4, 0, 0, 0, 0, 0, 0, []) : xm_I) := rfl
theorem r_X11_moved_79 : co_X11_moved[79]? = some ((190, .iconst 2, 0, 0, 0, 0, 2, 0, []) : xm_I) := rfl
theorem r_X11_moved_80 : co_X11_moved[80]? = some ((191, .irem, 0, 0, 0, 0, 0, 0, []) : xm_I) := rfl
theorem r_X11_moved_81 : co_X11_moved[81]? = some ((192, .ifCond .eq 7, 0, 0, 84, 0, 0, 0, []) : xm_I) := rfl
theorem r_X11_moved_82 : co_X11_moved[82]? = some ((195, .iconst (-1), 0, 0, 0, 0, (-1), 0, []) : xm_I) := rfl
theorem r_X11_moved_83 : co_X11_moved[83]? = some ((196, .goto 26, 0, 0, 97, 0, 0, 0, []) : xm_I) := rfl
theorem r_X11_moved_84 : co_X11_moved[84]? = some ((199, .iload_n 3, 0, 0, 0, 0, 0, 0, []) : xm_I) := rfl
theorem r_X11_moved_85 : co_X11_moved[85]? = some ((200, .iload 4, 0, 0, 0, 0, 0, 0, []) : xm_I) := rfl
theorem r_X11_moved_86 : co_X11_moved[86]? = some ((202, .iconst 2, 0, 0, 0, 0, 2, 0, []) : xm_I) := rfl
theorem r_X11_moved_87 : co_X11_moved[87]? = some ((203, .idiv, 0, 0, 0, 0, 0, 0, []) : xm_I) := rfl
theorem r_X11_moved_88 : co_X11_moved[88]? = some ((204, .iload 5, 0, 0, 0, 0, 0, 0, []) : xm_I) := rfl
theorem r_X11_moved_89 : co_X11_moved[89]? = some ((206, .iconst 1, 0, 0, 0, 0, 1, 0, []) : xm_I) := rfl
theorem r_X11_moved_90 : co_X11_moved[90]? = some ((207, .if_icmp .ne 7, 0, 0, 93, 0, 0, 0, []) : xm_I) := rfl
theorem r_X11_moved_91 : co_X11_moved[91]? = some ((210, .iconst 0, 0, 0, 0, 0, 0, 0, []) : xm_I) := rfl
theorem r_X11_moved_92 : co_X11_moved[92]? = some ((211, .goto 5, 0, 0, 94, 0, 0, 0, []) : xm_I) := rfl
theorem r_X11_moved_93 : co_X11_moved[93]? = some ((214, .iload 5, 0, 0, 0, 0, 0, 0, []) : xm_I) := rfl
theorem r_X11_moved_94 : co_X11_moved[94]? = some ((216, .iload 6, 0, 0, 0, 0, 0, 0, []) : xm_I) := rfl
theorem r_X11_moved_95 : co_X11_moved[95]? = some ((218, .iconst 0, 0, 0, 0, 0, 0, 0, []) : xm_I) := rfl
theorem r_X11_moved_96 : co_X11_moved[96]? = some ((219, .invokestatic 257, 1663, 221, 5, 0, 0, 0, []) : xm_I) := rfl
theorem r_X11_moved_97 : co_X11_moved[97]? = some ((222, .ireturn, 0, 0, 0, 0, 0, 0, []) : xm_I) := rfl
theorem r_X11_moved_98 : co_X11_moved[98]? = some ((223, .iload 4, 0, 0, 0, 0, 0, 0, []) : xm_I) := rfl
theorem r_X11_moved_99 : co_X11_moved[99]? = some ((225, .iconst 3, 0, 0, 0, 0, 3, 0, []) : xm_I) := rfl
theorem r_X11_moved_100 : co_X11_moved[100]? = some ((226, .irem, 0, 0, 0, 0, 0, 0, []) : xm_I) := rfl
theorem r_X11_moved_101 : co_X11_moved[101]? = some ((227, .ifCond .eq 7, 0, 0, 104, 0, 0, 0, []) : xm_I) := rfl
theorem r_X11_moved_102 : co_X11_moved[102]? = some ((230, .iconst (-1), 0, 0, 0, 0, (-1), 0, []) : xm_I) := rfl
theorem r_X11_moved_103 : co_X11_moved[103]? = some ((231, .goto 33, 0, 0, 121, 0, 0, 0, []) : xm_I) := rfl
theorem r_X11_moved_104 : co_X11_moved[104]? = some ((234, .iload_n 3, 0, 0, 0, 0, 0, 0, []) : xm_I) := rfl
theorem r_X11_moved_105 : co_X11_moved[105]? = some ((235, .iload 4, 0, 0, 0, 0, 0, 0, []) : xm_I) := rfl
theorem r_X11_moved_106 : co_X11_moved[106]? = some ((237, .iconst 3, 0, 0, 0, 0, 3, 0, []) : xm_I) := rfl
theorem r_X11_moved_107 : co_X11_moved[107]? = some ((238, .idiv, 0, 0, 0, 0, 0, 0, []) : xm_I) := rfl
theorem r_X11_moved_108 : co_X11_moved[108]? = some ((239, .iload 5, 0, 0, 0, 0, 0, 0, []) : xm_I) := rfl
theorem r_X11_moved_109 : co_X11_moved[109]? = some ((241, .ifCond .eq 9, 0, 0, 113, 0, 0, 0, []) : xm_I) := rfl
theorem r_X11_moved_110 : co_X11_moved[110]? = some ((244, .iload 5, 0, 0, 0, 0, 0, 0, []) : xm_I) := rfl
theorem r_X11_moved_111 : co_X11_moved[111]? = some ((246, .iconst 1, 0, 0, 0, 0, 1, 0, []) : xm_I) := rfl
theorem r_X11_moved_112 : co_X11_moved[112]? = some ((247, .if_icmp .ne 7, 0, 0, 115, 0, 0, 0, []) : xm_I) := rfl
theorem r_X11_moved_113 : co_X11_moved[113]? = some ((250, .iconst 4, 0, 0, 0, 0, 4, 0, []) : xm_I) := rfl
theorem r_X11_moved_114 : co_X11_moved[114]? = some ((251, .goto 5, 0, 0, 116, 0, 0, 0, []) : xm_I) := rfl
theorem r_X11_moved_115 : co_X11_moved[115]? = some ((254, .iload 5, 0, 0, 0, 0, 0, 0, []) : xm_I) := rfl
theorem r_X11_moved_116 : co_X11_moved[116]? = some ((256, .iconst 1, 0, 0, 0, 0, 1, 0, []) : xm_I) := rfl
theorem r_X11_moved_117 : co_X11_moved[117]? = some ((257, .iload 6, 0, 0, 0, 0, 0, 0, []) : xm_I) := rfl
theorem r_X11_moved_118 : co_X11_moved[118]? = some ((259, .isub, 0, 0, 0, 0, 0, 0, []) : xm_I) := rfl
theorem r_X11_moved_119 : co_X11_moved[119]? = some ((260, .iconst 0, 0, 0, 0, 0, 0, 0, []) : xm_I) := rfl
theorem r_X11_moved_120 : co_X11_moved[120]? = some ((261, .invokestatic 257, 1663, 221, 5, 0, 0, 0, []) : xm_I) := rfl
theorem r_X11_moved_121 : co_X11_moved[121]? = some ((264, .ireturn, 0, 0, 0, 0, 0, 0, []) : xm_I) := rfl
theorem r_X11_moved_122 : co_X11_moved[122]? = some ((265, .iload_n 3, 0, 0, 0, 0, 0, 0, []) : xm_I) := rfl
theorem r_X11_moved_123 : co_X11_moved[123]? = some ((266, .iconst 2, 0, 0, 0, 0, 2, 0, []) : xm_I) := rfl
theorem r_X11_moved_124 : co_X11_moved[124]? = some ((267, .irem, 0, 0, 0, 0, 0, 0, []) : xm_I) := rfl
theorem r_X11_moved_125 : co_X11_moved[125]? = some ((268, .ifCond .eq 7, 0, 0, 128, 0, 0, 0, []) : xm_I) := rfl
theorem r_X11_moved_126 : co_X11_moved[126]? = some ((271, .iconst (-1), 0, 0, 0, 0, (-1), 0, []) : xm_I) := rfl
theorem r_X11_moved_127 : co_X11_moved[127]? = some ((272, .goto 28, 0, 0, 143, 0, 0, 0, []) : xm_I) := rfl
theorem r_X11_moved_128 : co_X11_moved[128]? = some ((275, .iload_n 3, 0, 0, 0, 0, 0, 0, []) : xm_I) := rfl
theorem r_X11_moved_129 : co_X11_moved[129]? = some ((276, .iconst 2, 0, 0, 0, 0, 2, 0, []) : xm_I) := rfl
theorem r_X11_moved_130 : co_X11_moved[130]? = some ((277, .idiv, 0, 0, 0, 0, 0, 0, []) : xm_I) := rfl
theorem r_X11_moved_131 : co_X11_moved[131]? = some ((278, .iload 4, 0, 0, 0, 0, 0, 0, []) : xm_I) := rfl
theorem r_X11_moved_132 : co_X11_moved[132]? = some ((280, .iload 5, 0, 0, 0, 0, 0, 0, []) : xm_I) := rfl
theorem r_X11_moved_133 : co_X11_moved[133]? = some ((282, .iconst 2, 0, 0, 0, 0, 2, 0, []) : xm_I) := rfl
theorem r_X11_moved_134 : co_X11_moved[134]? = some ((283, .if_icmp .ne 7, 0, 0, 137, 0, 0, 0, []) : xm_I) := rfl
theorem r_X11_moved_135 : co_X11_moved[135]? = some ((286, .iconst 3, 0, 0, 0, 0, 3, 0, []) : xm_I) := rfl
theorem r_X11_moved_136 : co_X11_moved[136]? = some ((287, .goto 5, 0, 0, 138, 0, 0, 0, []) : xm_I) := rfl
theorem r_X11_moved_137 : co_X11_moved[137]? = some ((290, .iload 5, 0, 0, 0, 0, 0, 0, []) : xm_I) := rfl
theorem r_X11_moved_138 : co_X11_moved[138]? = some ((292, .iconst 1, 0, 0, 0, 0, 1, 0, []) : xm_I) := rfl
theorem r_X11_moved_139 : co_X11_moved[139]? = some ((293, .iload 6, 0, 0, 0, 0, 0, 0, []) : xm_I) := rfl
theorem r_X11_moved_140 : co_X11_moved[140]? = some ((295, .isub, 0, 0, 0, 0, 0, 0, []) : xm_I) := rfl
theorem r_X11_moved_141 : co_X11_moved[141]? = some ((296, .iconst 0, 0, 0, 0, 0, 0, 0, []) : xm_I) := rfl
theorem r_X11_moved_142 : co_X11_moved[142]? = some ((297, .invokestatic 257, 1663, 221, 5, 0, 0, 0, []) : xm_I) := rfl
theorem r_X11_moved_143 : co_X11_moved[143]? = some ((300, .ireturn, 0, 0, 0, 0, 0, 0, []) : xm_I) := rfl
theorem r_X11_moved_144 : co_X11_moved[144]? = some ((301, .iload_n 3, 0, 0, 0, 0, 0, 0, []) : xm_I) := rfl
theorem r_X11_moved_145 : co_X11_moved[145]? = some ((302, .iconst 2, 0, 0, 0, 0, 2, 0, []) : xm_I) := rfl
theorem r_X11_moved_146 : co_X11_moved[146]? = some ((303, .irem, 0, 0, 0, 0, 0, 0, []) : xm_I) := rfl
theorem r_X11_moved_147 : co_X11_moved[147]? = some ((304, .ifCond .eq 7, 0, 0, 150, 0, 0, 0, []) : xm_I) := rfl
theorem r_X11_moved_148 : co_X11_moved[148]? = some ((307, .iconst (-1), 0, 0, 0, 0, (-1), 0, []) : xm_I) := rfl
theorem r_X11_moved_149 : co_X11_moved[149]? = some ((308, .goto 26, 0, 0, 163, 0, 0, 0, []) : xm_I) := rfl
theorem r_X11_moved_150 : co_X11_moved[150]? = some ((311, .iload_n 3, 0, 0, 0, 0, 0, 0, []) : xm_I) := rfl
set_option maxRecDepth 100000 in
theorem r_X11_moved_151 : co_X11_moved[151]? = some ((312, .iconst 2, 0, 0, 0, 0, 2, 0, []) : xm_I) := rfl
set_option maxRecDepth 100000 in
theorem r_X11_moved_152 : co_X11_moved[152]? = some ((313, .idiv, 0, 0, 0, 0, 0, 0, []) : xm_I) := rfl
set_option maxRecDepth 100000 in
theorem r_X11_moved_153 : co_X11_moved[153]? = some ((314, .iload 4, 0, 0, 0, 0, 0, 0, []) : xm_I) := rfl
set_option maxRecDepth 100000 in
theorem r_X11_moved_154 : co_X11_moved[154]? = some ((316, .iload 5, 0, 0, 0, 0, 0, 0, []) : xm_I) := rfl
set_option maxRecDepth 100000 in
theorem r_X11_moved_155 : co_X11_moved[155]? = some ((318, .iconst 3, 0, 0, 0, 0, 3, 0, []) : xm_I) := rfl
set_option maxRecDepth 100000 in
theorem r_X11_moved_156 : co_X11_moved[156]? = some ((319, .if_icmp .ne 7, 0, 0, 159, 0, 0, 0, []) : xm_I) := rfl
set_option maxRecDepth 100000 in
theorem r_X11_moved_157 : co_X11_moved[157]? = some ((322, .iconst 2, 0, 0, 0, 0, 2, 0, []) : xm_I) := rfl
set_option maxRecDepth 100000 in
theorem r_X11_moved_158 : co_X11_moved[158]? = some ((323, .goto 5, 0, 0, 160, 0, 0, 0, []) : xm_I) := rfl
set_option maxRecDepth 100000 in
theorem r_X11_moved_159 : co_X11_moved[159]? = some ((326, .iload 5, 0, 0, 0, 0, 0, 0, []) : xm_I) := rfl
set_option maxRecDepth 100000 in
theorem r_X11_moved_160 : co_X11_moved[160]? = some ((328, .iload 6, 0, 0, 0, 0, 0, 0, []) : xm_I) := rfl
set_option maxRecDepth 100000 in
theorem r_X11_moved_161 : co_X11_moved[161]? = some ((330, .iconst 0, 0, 0, 0, 0, 0, 0, []) : xm_I) := rfl
set_option maxRecDepth 100000 in
theorem r_X11_moved_162 : co_X11_moved[162]? = some ((331, .invokestatic 257, 1663, 221, 5, 0, 0, 0, []) : xm_I) := rfl
set_option maxRecDepth 100000 in
theorem r_X11_moved_163 : co_X11_moved[163]? = some ((334, .ireturn, 0, 0, 0, 0, 0, 0, []) : xm_I) := rfl
set_option maxRecDepth 100000 in
theorem r_X11_moved_164 : co_X11_moved[164]? = some ((335, .iload_n 3, 0, 0, 0, 0, 0, 0, []) : xm_I) := rfl
set_option maxRecDepth 100000 in
theorem r_X11_moved_165 : co_X11_moved[165]? = some ((336, .iconst 2, 0, 0, 0, 0, 2, 0, []) : xm_I) := rfl
set_option maxRecDepth 100000 in
theorem r_X11_moved_166 : co_X11_moved[166]? = some ((337, .irem, 0, 0, 0, 0, 0, 0, []) : xm_I) := rfl
set_option maxRecDepth 100000 in
theorem r_X11_moved_167 : co_X11_moved[167]? = some ((338, .ifCond .eq 7, 0, 0, 170, 0, 0, 0, []) : xm_I) := rfl
set_option maxRecDepth 100000 in
theorem r_X11_moved_168 : co_X11_moved[168]? = some ((341, .iconst (-1), 0, 0, 0, 0, (-1), 0, []) : xm_I) := rfl
set_option maxRecDepth 100000 in
theorem r_X11_moved_169 : co_X11_moved[169]? = some ((342, .goto 34, 0, 0, 188, 0, 0, 0, []) : xm_I) := rfl
set_option maxRecDepth 100000 in
theorem r_X11_moved_170 : co_X11_moved[170]? = some ((345, .iload_n 3, 0, 0, 0, 0, 0, 0, []) : xm_I) := rfl
set_option maxRecDepth 100000 in
theorem r_X11_moved_171 : co_X11_moved[171]? = some ((346, .iconst 2, 0, 0, 0, 0, 2, 0, []) : xm_I) := rfl
set_option maxRecDepth 100000 in
theorem r_X11_moved_172 : co_X11_moved[172]? = some ((347, .idiv, 0, 0, 0, 0, 0, 0, []) : xm_I) := rfl
set_option maxRecDepth 100000 in
theorem r_X11_moved_173 : co_X11_moved[173]? = some ((348, .iload 4, 0, 0, 0, 0, 0, 0, []) : xm_I) := rfl
set_option maxRecDepth 100000 in
theorem r_X11_moved_174 : co_X11_moved[174]? = some ((350, .iload 5, 0, 0, 0, 0, 0, 0, []) : xm_I) := rfl
set_option maxRecDepth 100000 in
theorem r_X11_moved_175 : co_X11_moved[175]? = some ((352, .iconst 2, 0, 0, 0, 0, 2, 0, []) : xm_I) := rfl
set_option maxRecDepth 100000 in
theorem r_X11_moved_176 : co_X11_moved[176]? = some ((353, .if_icmp .eq 9, 0, 0, 180, 0, 0, 0, []) : xm_I) := rfl
set_option maxRecDepth 100000 in
theorem r_X11_moved_177 : co_X11_moved[177]? = some ((356, .iload 5, 0, 0, 0, 0, 0, 0, []) : xm_I) := rfl
set_option maxRecDepth 100000 in
theorem r_X11_moved_178 : co_X11_moved[178]? = some ((358, .iconst 3, 0, 0, 0, 0, 3, 0, []) : xm_I) := rfl
set_option maxRecDepth 100000 in
theorem r_X11_moved_179 : co_X11_moved[179]? = some ((359, .if_icmp .ne 7, 0, 0, 182, 0, 0, 0, []) : xm_I) := rfl
set_option maxRecDepth 100000 in
theorem r_X11_moved_180 : co_X11_moved[180]? = some ((362, .iconst 4, 0, 0, 0, 0, 4, 0, []) : xm_I) := rfl
set_option maxRecDepth 100000 in
theorem r_X11_moved_181 : co_X11_moved[181]? = some ((363, .goto 5, 0, 0, 183, 0, 0, 0, []) : xm_I) := rfl
set_option maxRecDepth 100000 in
theorem r_X11_moved_182 : co_X11_moved[182]? = some ((366, .iload 5, 0, 0, 0, 0, 0, 0, []) : xm_I) := rfl
set_option maxRecDepth 100000 in
theorem r_X11_moved_183 : co_X11_moved[183]? = some ((368, .iconst 1, 0, 0, 0, 0, 1, 0, []) : xm_I) := rfl
set_option maxRecDepth 100000 in
theorem r_X11_moved_184 : co_X11_moved[184]? = some ((369, .iload 6, 0, 0, 0, 0, 0, 0, []) : xm_I) := rfl
set_option maxRecDepth 100000 in
theorem r_X11_moved_185 : co_X11_moved[185]? = some ((371, .isub, 0, 0, 0, 0, 0, 0, []) : xm_I) := rfl
set_option maxRecDepth 100000 in
theorem r_X11_moved_186 : co_X11_moved[186]? = some ((372, .iconst 0, 0, 0, 0, 0, 0, 0, []) : xm_I) := rfl
set_option maxRecDepth 100000 in
theorem r_X11_moved_187 : co_X11_moved[187]? = some ((373, .invokestatic 257, 1663, 221, 5, 0, 0, 0, []) : xm_I) := rfl
set_option maxRecDepth 100000 in
theorem r_X11_moved_188 : co_X11_moved[188]? = some ((376, .ireturn, 0, 0, 0, 0, 0, 0, []) : xm_I) := rfl
set_option maxRecDepth 100000 in
theorem r_X11_moved_189 : co_X11_moved[189]? = some ((377, .iload_n 3, 0, 0, 0, 0, 0, 0, []) : xm_I) := rfl
set_option maxRecDepth 100000 in
theorem r_X11_moved_190 : co_X11_moved[190]? = some ((378, .iload 4, 0, 0, 0, 0, 0, 0, []) : xm_I) := rfl
set_option maxRecDepth 100000 in
theorem r_X11_moved_191 : co_X11_moved[191]? = some ((380, .iload 5, 0, 0, 0, 0, 0, 0, []) : xm_I) := rfl
set_option maxRecDepth 100000 in
theorem r_X11_moved_192 : co_X11_moved[192]? = some ((382, .iconst 0, 0, 0, 0, 0, 0, 0, []) : xm_I) := rfl
set_option maxRecDepth 100000 in
theorem r_X11_moved_193 : co_X11_moved[193]? = some ((383, .iconst 1, 0, 0, 0, 0, 1, 0, []) : xm_I) := rfl
set_option maxRecDepth 100000 in
theorem r_X11_moved_194 : co_X11_moved[194]? = some ((384, .invokestatic 287, 1693, 230, 3, 0, 0, 0, []) : xm_I) := rfl
set_option maxRecDepth 100000 in
theorem r_X11_moved_195 : co_X11_moved[195]? = some ((387, .iconst 1, 0, 0, 0, 0, 1, 0, []) : xm_I) := rfl
set_option maxRecDepth 100000 in
theorem r_X11_moved_196 : co_X11_moved[196]? = some ((388, .iload 6, 0, 0, 0, 0, 0, 0, []) : xm_I) := rfl
set_option maxRecDepth 100000 in
theorem r_X11_moved_197 : co_X11_moved[197]? = some ((390, .isub, 0, 0, 0, 0, 0, 0, []) : xm_I) := rfl
set_option maxRecDepth 100000 in
theorem r_X11_moved_198 : co_X11_moved[198]? = some ((391, .iconst 0, 0, 0, 0, 0, 0, 0, []) : xm_I) := rfl
set_option maxRecDepth 100000 in
theorem r_X11_moved_199 : co_X11_moved[199]? = some ((392, .invokestatic 257, 1663, 221, 5, 0, 0, 0, []) : xm_I) := rfl
set_option maxRecDepth 100000 in
theorem r_X11_moved_200 : co_X11_moved[200]? = some ((395, .ireturn, 0, 0, 0, 0, 0, 0, []) : xm_I) := rfl
set_option maxRecDepth 100000 in
theorem r_X11_moved_201 : co_X11_moved[201]? = some ((396, .iload_n 3, 0, 0, 0, 0, 0, 0, []) : xm_I) := rfl
set_option maxRecDepth 100000 in
theorem r_X11_moved_202 : co_X11_moved[202]? = some ((397, .iload 4, 0, 0, 0, 0, 0, 0, []) : xm_I) := rfl
set_option maxRecDepth 100000 in
theorem r_X11_moved_203 : co_X11_moved[203]? = some ((399, .iload 5, 0, 0, 0, 0, 0, 0, []) : xm_I) := rfl
set_option maxRecDepth 100000 in
theorem r_X11_moved_204 : co_X11_moved[204]? = some ((401, .iconst 0, 0, 0, 0, 0, 0, 0, []) : xm_I) := rfl
set_option maxRecDepth 100000 in
theorem r_X11_moved_205 : co_X11_moved[205]? = some ((402, .iconst 1, 0, 0, 0, 0, 1, 0, []) : xm_I) := rfl
set_option maxRecDepth 100000 in
theorem r_X11_moved_206 : co_X11_moved[206]? = some ((403, .invokestatic 287, 1693, 230, 3, 0, 0, 0, []) : xm_I) := rfl
set_option maxRecDepth 100000 in
theorem r_X11_moved_207 : co_X11_moved[207]? = some ((406, .iconst 2, 0, 0, 0, 0, 2, 0, []) : xm_I) := rfl
set_option maxRecDepth 100000 in
theorem r_X11_moved_208 : co_X11_moved[208]? = some ((407, .iconst 3, 0, 0, 0, 0, 3, 0, []) : xm_I) := rfl
set_option maxRecDepth 100000 in
theorem r_X11_moved_209 : co_X11_moved[209]? = some ((408, .invokestatic 287, 1693, 230, 3, 0, 0, 0, []) : xm_I) := rfl
set_option maxRecDepth 100000 in
theorem r_X11_moved_210 : co_X11_moved[210]? = some ((411, .iload 6, 0, 0, 0, 0, 0, 0, []) : xm_I) := rfl
set_option maxRecDepth 100000 in
theorem r_X11_moved_211 : co_X11_moved[211]? = some ((413, .iconst 0, 0, 0, 0, 0, 0, 0, []) : xm_I) := rfl
set_option maxRecDepth 100000 in
theorem r_X11_moved_212 : co_X11_moved[212]? = some ((414, .invokestatic 257, 1663, 221, 5, 0, 0, 0, []) : xm_I) := rfl
set_option maxRecDepth 100000 in
theorem r_X11_moved_213 : co_X11_moved[213]? = some ((417, .ireturn, 0, 0, 0, 0, 0, 0, []) : xm_I) := rfl
set_option maxRecDepth 100000 in
theorem r_X11_moved_214 : co_X11_moved[214]? = some ((418, .iload 4, 0, 0, 0, 0, 0, 0, []) : xm_I) := rfl
set_option maxRecDepth 100000 in
theorem r_X11_moved_215 : co_X11_moved[215]? = some ((420, .iload_n 3, 0, 0, 0, 0, 0, 0, []) : xm_I) := rfl
set_option maxRecDepth 100000 in
theorem r_X11_moved_216 : co_X11_moved[216]? = some ((421, .iload 5, 0, 0, 0, 0, 0, 0, []) : xm_I) := rfl
set_option maxRecDepth 100000 in
theorem r_X11_moved_217 : co_X11_moved[217]? = some ((423, .invokestatic 291, 1696, 231, 1, 0, 0, 0, []) : xm_I) := rfl
set_option maxRecDepth 100000 in
theorem r_X11_moved_218 : co_X11_moved[218]? = some ((426, .iload 6, 0, 0, 0, 0, 0, 0, []) : xm_I) := rfl
set_option maxRecDepth 100000 in
theorem r_X11_moved_219 : co_X11_moved[219]? = some ((428, .iconst 0, 0, 0, 0, 0, 0, 0, []) : xm_I) := rfl
set_option maxRecDepth 100000 in
theorem r_X11_moved_220 : co_X11_moved[220]? = some ((429, .invokestatic 257, 1663, 221, 5, 0, 0, 0, []) : xm_I) := rfl
set_option maxRecDepth 100000 in
theorem r_X11_moved_221 : co_X11_moved[221]? = some ((432, .ireturn, 0, 0, 0, 0, 0, 0, []) : xm_I) := rfl
theorem p_X11_moved_0_0 {X : xm_X} {P : List xm_M} {d : Nat} {h : xm_H} {l0 : Nat} {l1 : Int32} {l2 : Int32} {h0 : xm_H} {r0 : Int32} {h1 : xm_H} {r1 : Int32} {h2 : xm_H} {r2 : Int32} {h3 : xm_H} {r3 : Int32} {h4 : xm_H} {r4 : Int32} (q0 : xm_V X P d 224 [.int l1] h (some (.int r0)) h0) (q1 : xm_V X P d 225 [.int l1] h0 (some (.int r1)) h1) (q2 : xm_V X P d 226 [.int l1] h1 (some (.int r2)) h2) (q3 : xm_V X P d 227 [.int l1] h2 (some (.int r3)) h3) (q4 : xm_V X P d 228 [.int l1] h3 (some (.int r4)) h4) (q5 : l2 = (9 : Int32)) (q6 : r4 = (0 : Int32)) : xm_E X P d co_X11_moved 0 [some (.ref l0), some (.int l1), some (.int l2), none, none, none, none, none] [] h (some (.int (-1 : Int32))) h4 := by
  refine xm_E_s r_X11_moved_0 rfl rfl ?_
  refine xm_E_cs [.int l1] [] r_X11_moved_1 rfl rfl rfl (Nat.le_of_ble_eq_true rfl) rfl q0 ?_
  refine xm_E_s (ls1 := [some (.ref l0), some (.int l1), some (.int l2), some (.int r0), none, none, none, none]) r_X11_moved_2 rfl rfl ?_
  refine xm_E_s r_X11_moved_3 rfl rfl ?_
  refine xm_E_cs [.int l1] [] r_X11_moved_4 rfl rfl rfl (Nat.le_of_ble_eq_true rfl) rfl q1 ?_
  refine xm_E_s (ls1 := [some (.ref l0), some (.int l1), some (.int l2), some (.int r0), some (.int r1), none, none, none]) r_X11_moved_5 rfl rfl ?_
  refine xm_E_s r_X11_moved_6 rfl rfl ?_
  refine xm_E_cs [.int l1] [] r_X11_moved_7 rfl rfl rfl (Nat.le_of_ble_eq_true rfl) rfl q2 ?_
  refine xm_E_s (ls1 := [some (.ref l0), some (.int l1), some (.int l2), some (.int r0), some (.int r1), some (.int r2), none, none]) r_X11_moved_8 rfl rfl ?_
  refine xm_E_s r_X11_moved_9 rfl rfl ?_
  refine xm_E_cs [.int l1] [] r_X11_moved_10 rfl rfl rfl (Nat.le_of_ble_eq_true rfl) rfl q3 ?_
  refine xm_E_s (ls1 := [some (.ref l0), some (.int l1), some (.int l2), some (.int r0), some (.int r1), some (.int r2), some (.int r3), none]) r_X11_moved_11 rfl rfl ?_
  refine xm_E_s r_X11_moved_12 rfl rfl ?_
  refine xm_E_cs [.int l1] [] r_X11_moved_13 rfl rfl rfl (Nat.le_of_ble_eq_true rfl) rfl q4 ?_
  refine xm_E_s (ls1 := [some (.ref l0), some (.int l1), some (.int l2), some (.int r0), some (.int r1), some (.int r2), some (.int r3), some (.int r4)]) r_X11_moved_14 rfl rfl ?_
  refine xm_E_s r_X11_moved_15 rfl rfl ?_
  refine xm_E_s r_X11_moved_16 rfl rfl ?_
  refine xm_E_s r_X11_moved_17 rfl rfl ?_
  refine xm_E_t q5 ?_
  refine xm_E_s r_X11_moved_18 rfl rfl ?_
  refine xm_E_s r_X11_moved_19 rfl rfl ?_
  refine xm_E_t q6 ?_
  refine xm_E_s r_X11_moved_20 rfl rfl ?_
  refine xm_E_s r_X11_moved_21 rfl rfl ?_
  exact xm_E_iret r_X11_moved_36 rfl rfl
theorem p_X11_moved_0_1 {X : xm_X} {P : List xm_M} {d : Nat} {h : xm_H} {l0 : Nat} {l1 : Int32} {l2 : Int32} {h0 : xm_H} {r0 : Int32} {h1 : xm_H} {r1 : Int32} {h2 : xm_H} {r2 : Int32} {h3 : xm_H} {r3 : Int32} {h4 : xm_H} {r4 : Int32} {h5 : xm_H} {r5 : Int32} (q0 : xm_V X P d 224 [.int l1] h (some (.int r0)) h0) (q1 : xm_V X P d 225 [.int l1] h0 (some (.int r1)) h1) (q2 : xm_V X P d 226 [.int l1] h1 (some (.int r2)) h2) (q3 : xm_V X P d 227 [.int l1] h2 (some (.int r3)) h3) (q4 : xm_V X P d 228 [.int l1] h3 (some (.int r4)) h4) (q5 : l2 = (9 : Int32)) (q6 : ¬ (r4 = (0 : Int32))) (q7 : r4 ≤ (0 : Int32)) (q8 : xm_V X P d 221 [.int r0, .int r1, .int r2, .int r3, .int (r4 + (1 : Int32))] h4 (some (.int r5)) h5) : xm_E X P d co_X11_moved 0 [some (.ref l0), some (.int l1), some (.int l2), none, none, none, none, none] [] h (some (.int r5)) h5 := by
  refine xm_E_s r_X11_moved_0 rfl rfl ?_
  refine xm_E_cs [.int l1] [] r_X11_moved_1 rfl rfl rfl (Nat.le_of_ble_eq_true rfl) rfl q0 ?_
  refine xm_E_s (ls1 := [some (.ref l0), some (.int l1), some (.int l2), some (.int r0), none, none, none, none]) r_X11_moved_2 rfl rfl ?_
  refine xm_E_s r_X11_moved_3 rfl rfl ?_
  refine xm_E_cs [.int l1] [] r_X11_moved_4 rfl rfl rfl (Nat.le_of_ble_eq_true rfl) rfl q1 ?_
  refine xm_E_s (ls1 := [some (.ref l0), some (.int l1), some (.int l2), some (.int r0), some (.int r1), none, none, none]) r_X11_moved_5 rfl rfl ?_
  refine xm_E_s r_X11_moved_6 rfl rfl ?_
  refine xm_E_cs [.int l1] [] r_X11_moved_7 rfl rfl rfl (Nat.le_of_ble_eq_true rfl) rfl q2 ?_
  refine xm_E_s (ls1 := [some (.ref l0), some (.int l1), some (.int l2), some (.int r0), some (.int r1), some (.int r2), none, none]) r_X11_moved_8 rfl rfl ?_
  refine xm_E_s r_X11_moved_9 rfl rfl ?_
  refine xm_E_cs [.int l1] [] r_X11_moved_10 rfl rfl rfl (Nat.le_of_ble_eq_true rfl) rfl q3 ?_
  refine xm_E_s (ls1 := [some (.ref l0), some (.int l1), some (.int l2), some (.int r0), some (.int r1), some (.int r2), some (.int r3), none]) r_X11_moved_11 rfl rfl ?_
  refine xm_E_s r_X11_moved_12 rfl rfl ?_
  refine xm_E_cs [.int l1] [] r_X11_moved_13 rfl rfl rfl (Nat.le_of_ble_eq_true rfl) rfl q4 ?_
  refine xm_E_s (ls1 := [some (.ref l0), some (.int l1), some (.int l2), some (.int r0), some (.int r1), some (.int r2), some (.int r3), some (.int r4)]) r_X11_moved_14 rfl rfl ?_
  refine xm_E_s r_X11_moved_15 rfl rfl ?_
  refine xm_E_s r_X11_moved_16 rfl rfl ?_
  refine xm_E_s r_X11_moved_17 rfl rfl ?_
  refine xm_E_t q5 ?_
  refine xm_E_s r_X11_moved_18 rfl rfl ?_
  refine xm_E_s r_X11_moved_19 rfl rfl ?_
  refine xm_E_f q6 ?_
  refine xm_E_s r_X11_moved_22 rfl rfl ?_
  refine xm_E_s r_X11_moved_23 rfl rfl ?_
  refine xm_E_s r_X11_moved_24 rfl rfl ?_
  refine xm_E_s r_X11_moved_25 rfl rfl ?_
  refine xm_E_s r_X11_moved_26 rfl rfl ?_
  refine xm_E_s r_X11_moved_27 rfl rfl ?_
  refine xm_E_t q7 ?_
  refine xm_E_s r_X11_moved_32 rfl rfl ?_
  refine xm_E_s r_X11_moved_33 rfl rfl ?_
  refine xm_E_s r_X11_moved_34 rfl rfl ?_
  refine xm_E_cs [.int r0, .int r1, .int r2, .int r3, .int (r4 + (1 : Int32))] [] r_X11_moved_35 rfl rfl rfl (Nat.le_of_ble_eq_true rfl) rfl q8 ?_
  exact xm_E_iret r_X11_moved_36 rfl rfl
theorem p_X11_moved_0_2 {X : xm_X} {P : List xm_M} {d : Nat} {h : xm_H} {l0 : Nat} {l1 : Int32} {l2 : Int32} {h0 : xm_H} {r0 : Int32} {h1 : xm_H} {r1 : Int32} {h2 : xm_H} {r2 : Int32} {h3 : xm_H} {r3 : Int32} {h4 : xm_H} {r4 : Int32} {h5 : xm_H} {r5 : Int32} (q0 : xm_V X P d 224 [.int l1] h (some (.int r0)) h0) (q1 : xm_V X P d 225 [.int l1] h0 (some (.int r1)) h1) (q2 : xm_V X P d 226 [.int l1] h1 (some (.int r2)) h2) (q3 : xm_V X P d 227 [.int l1] h2 (some (.int r3)) h3) (q4 : xm_V X P d 228 [.int l1] h3 (some (.int r4)) h4) (q5 : l2 = (9 : Int32)) (q6 : ¬ (r4 = (0 : Int32))) (q7 : ¬ (r4 ≤ (0 : Int32))) (q8 : xm_V X P d 221 [.int r0, .int r1, .int r2, .int r3, .int (r4 - (1 : Int32))] h4 (some (.int r5)) h5) : xm_E X P d co_X11_moved 0 [some (.ref l0), some (.int l1), some (.int l2), none, none, none, none, none] [] h (some (.int r5)) h5 := by
  refine xm_E_s r_X11_moved_0 rfl rfl ?_
  refine xm_E_cs [.int l1] [] r_X11_moved_1 rfl rfl rfl (Nat.le_of_ble_eq_true rfl) rfl q0 ?_
  refine xm_E_s (ls1 := [some (.ref l0), some (.int l1), some (.int l2), some (.int r0), none, none, none, none]) r_X11_moved_2 rfl rfl ?_
  refine xm_E_s r_X11_moved_3 rfl rfl ?_
  refine xm_E_cs [.int l1] [] r_X11_moved_4 rfl rfl rfl (Nat.le_of_ble_eq_true rfl) rfl q1 ?_
  refine xm_E_s (ls1 := [some (.ref l0), some (.int l1), some (.int l2), some (.int r0), some (.int r1), none, none, none]) r_X11_moved_5 rfl rfl ?_
  refine xm_E_s r_X11_moved_6 rfl rfl ?_
  refine xm_E_cs [.int l1] [] r_X11_moved_7 rfl rfl rfl (Nat.le_of_ble_eq_true rfl) rfl q2 ?_
  refine xm_E_s (ls1 := [some (.ref l0), some (.int l1), some (.int l2), some (.int r0), some (.int r1), some (.int r2), none, none]) r_X11_moved_8 rfl rfl ?_
  refine xm_E_s r_X11_moved_9 rfl rfl ?_
  refine xm_E_cs [.int l1] [] r_X11_moved_10 rfl rfl rfl (Nat.le_of_ble_eq_true rfl) rfl q3 ?_
  refine xm_E_s (ls1 := [some (.ref l0), some (.int l1), some (.int l2), some (.int r0), some (.int r1), some (.int r2), some (.int r3), none]) r_X11_moved_11 rfl rfl ?_
  refine xm_E_s r_X11_moved_12 rfl rfl ?_
  refine xm_E_cs [.int l1] [] r_X11_moved_13 rfl rfl rfl (Nat.le_of_ble_eq_true rfl) rfl q4 ?_
  refine xm_E_s (ls1 := [some (.ref l0), some (.int l1), some (.int l2), some (.int r0), some (.int r1), some (.int r2), some (.int r3), some (.int r4)]) r_X11_moved_14 rfl rfl ?_
  refine xm_E_s r_X11_moved_15 rfl rfl ?_
  refine xm_E_s r_X11_moved_16 rfl rfl ?_
  refine xm_E_s r_X11_moved_17 rfl rfl ?_
  refine xm_E_t q5 ?_
  refine xm_E_s r_X11_moved_18 rfl rfl ?_
  refine xm_E_s r_X11_moved_19 rfl rfl ?_
  refine xm_E_f q6 ?_
  refine xm_E_s r_X11_moved_22 rfl rfl ?_
  refine xm_E_s r_X11_moved_23 rfl rfl ?_
  refine xm_E_s r_X11_moved_24 rfl rfl ?_
  refine xm_E_s r_X11_moved_25 rfl rfl ?_
  refine xm_E_s r_X11_moved_26 rfl rfl ?_
  refine xm_E_s r_X11_moved_27 rfl rfl ?_
  refine xm_E_f q7 ?_
  refine xm_E_s r_X11_moved_28 rfl rfl ?_
  refine xm_E_s r_X11_moved_29 rfl rfl ?_
  refine xm_E_s r_X11_moved_30 rfl rfl ?_
  refine xm_E_s r_X11_moved_31 rfl rfl ?_
  refine xm_E_cs [.int r0, .int r1, .int r2, .int r3, .int (r4 - (1 : Int32))] [] r_X11_moved_35 rfl rfl rfl (Nat.le_of_ble_eq_true rfl) rfl q8 ?_
  exact xm_E_iret r_X11_moved_36 rfl rfl
theorem p_X11_moved_0_3 {X : xm_X} {P : List xm_M} {d : Nat} {h : xm_H} {l0 : Nat} {l1 : Int32} {l2 : Int32} {h0 : xm_H} {r0 : Int32} {h1 : xm_H} {r1 : Int32} {h2 : xm_H} {r2 : Int32} {h3 : xm_H} {r3 : Int32} {h4 : xm_H} {r4 : Int32} {h5 : xm_H} {r5 : Int32} (q0 : xm_V X P d 224 [.int l1] h (some (.int r0)) h0) (q1 : xm_V X P d 225 [.int l1] h0 (some (.int r1)) h1) (q2 : xm_V X P d 226 [.int l1] h1 (some (.int r2)) h2) (q3 : xm_V X P d 227 [.int l1] h2 (some (.int r3)) h3) (q4 : xm_V X P d 228 [.int l1] h3 (some (.int r4)) h4) (q5 : ¬ (l2 = (9 : Int32))) (q6 : r4 = (0 : Int32)) (q7 : xm_V X P d 229 [.ref l0, .int l1, .int l2] h4 (some (.int r5)) h5) (q8 : X.1[l0]? = some (.inr 10)) (q9 : r5 = (0 : Int32)) : xm_E X P d co_X11_moved 0 [some (.ref l0), some (.int l1), some (.int l2), none, none, none, none, none] [] h (some (.int (-1 : Int32))) h5 := by
  refine xm_E_s r_X11_moved_0 rfl rfl ?_
  refine xm_E_cs [.int l1] [] r_X11_moved_1 rfl rfl rfl (Nat.le_of_ble_eq_true rfl) rfl q0 ?_
  refine xm_E_s (ls1 := [some (.ref l0), some (.int l1), some (.int l2), some (.int r0), none, none, none, none]) r_X11_moved_2 rfl rfl ?_
  refine xm_E_s r_X11_moved_3 rfl rfl ?_
  refine xm_E_cs [.int l1] [] r_X11_moved_4 rfl rfl rfl (Nat.le_of_ble_eq_true rfl) rfl q1 ?_
  refine xm_E_s (ls1 := [some (.ref l0), some (.int l1), some (.int l2), some (.int r0), some (.int r1), none, none, none]) r_X11_moved_5 rfl rfl ?_
  refine xm_E_s r_X11_moved_6 rfl rfl ?_
  refine xm_E_cs [.int l1] [] r_X11_moved_7 rfl rfl rfl (Nat.le_of_ble_eq_true rfl) rfl q2 ?_
  refine xm_E_s (ls1 := [some (.ref l0), some (.int l1), some (.int l2), some (.int r0), some (.int r1), some (.int r2), none, none]) r_X11_moved_8 rfl rfl ?_
  refine xm_E_s r_X11_moved_9 rfl rfl ?_
  refine xm_E_cs [.int l1] [] r_X11_moved_10 rfl rfl rfl (Nat.le_of_ble_eq_true rfl) rfl q3 ?_
  refine xm_E_s (ls1 := [some (.ref l0), some (.int l1), some (.int l2), some (.int r0), some (.int r1), some (.int r2), some (.int r3), none]) r_X11_moved_11 rfl rfl ?_
  refine xm_E_s r_X11_moved_12 rfl rfl ?_
  refine xm_E_cs [.int l1] [] r_X11_moved_13 rfl rfl rfl (Nat.le_of_ble_eq_true rfl) rfl q4 ?_
  refine xm_E_s (ls1 := [some (.ref l0), some (.int l1), some (.int l2), some (.int r0), some (.int r1), some (.int r2), some (.int r3), some (.int r4)]) r_X11_moved_14 rfl rfl ?_
  refine xm_E_s r_X11_moved_15 rfl rfl ?_
  refine xm_E_s r_X11_moved_16 rfl rfl ?_
  refine xm_E_s r_X11_moved_17 rfl rfl ?_
  refine xm_E_f q5 ?_
  refine xm_E_s r_X11_moved_37 rfl rfl ?_
  refine xm_E_s r_X11_moved_38 rfl rfl ?_
  refine xm_E_t q6 ?_
  refine xm_E_s r_X11_moved_39 rfl rfl ?_
  refine xm_E_s r_X11_moved_40 rfl rfl ?_
  refine xm_E_s r_X11_moved_41 rfl rfl ?_
  refine xm_E_cv [.ref l0, .int l1, .int l2] [] r_X11_moved_42 rfl rfl (Nat.le_of_ble_eq_true rfl) (xm_rc q8 (by decide)) rfl q7 ?_
  refine xm_E_s r_X11_moved_43 rfl rfl ?_
  refine xm_E_t q9 ?_
  refine xm_E_s r_X11_moved_53 rfl rfl ?_
  exact xm_E_iret r_X11_moved_54 rfl rfl
theorem p_X11_moved_0_4 {X : xm_X} {P : List xm_M} {d : Nat} {h : xm_H} {l0 : Nat} {l1 : Int32} {l2 : Int32} {h0 : xm_H} {r0 : Int32} {h1 : xm_H} {r1 : Int32} {h2 : xm_H} {r2 : Int32} {h3 : xm_H} {r3 : Int32} {h4 : xm_H} {r4 : Int32} {h5 : xm_H} {r5 : Int32} {ro : Option Value} {ho : xm_H} (q0 : xm_V X P d 224 [.int l1] h (some (.int r0)) h0) (q1 : xm_V X P d 225 [.int l1] h0 (some (.int r1)) h1) (q2 : xm_V X P d 226 [.int l1] h1 (some (.int r2)) h2) (q3 : xm_V X P d 227 [.int l1] h2 (some (.int r3)) h3) (q4 : xm_V X P d 228 [.int l1] h3 (some (.int r4)) h4) (q5 : ¬ (l2 = (9 : Int32))) (q6 : r4 = (0 : Int32)) (q7 : xm_V X P d 229 [.ref l0, .int l1, .int l2] h4 (some (.int r5)) h5) (q8 : X.1[l0]? = some (.inr 10)) (q9 : ¬ (r5 = (0 : Int32))) (q10 : h5.1 l0 16 = (0 : Int32)) (K : xm_E X P d co_X11_moved 55 [some (.ref l0), some (.int l1), some (.int l2), some (.int r0), some (.int r1), some (.int r2), some (.int r3), some (.int r4)] [] h5 ro ho) : xm_E X P d co_X11_moved 0 [some (.ref l0), some (.int l1), some (.int l2), none, none, none, none, none] [] h ro ho := by
  refine xm_E_s r_X11_moved_0 rfl rfl ?_
  refine xm_E_cs [.int l1] [] r_X11_moved_1 rfl rfl rfl (Nat.le_of_ble_eq_true rfl) rfl q0 ?_
  refine xm_E_s (ls1 := [some (.ref l0), some (.int l1), some (.int l2), some (.int r0), none, none, none, none]) r_X11_moved_2 rfl rfl ?_
  refine xm_E_s r_X11_moved_3 rfl rfl ?_
  refine xm_E_cs [.int l1] [] r_X11_moved_4 rfl rfl rfl (Nat.le_of_ble_eq_true rfl) rfl q1 ?_
  refine xm_E_s (ls1 := [some (.ref l0), some (.int l1), some (.int l2), some (.int r0), some (.int r1), none, none, none]) r_X11_moved_5 rfl rfl ?_
  refine xm_E_s r_X11_moved_6 rfl rfl ?_
  refine xm_E_cs [.int l1] [] r_X11_moved_7 rfl rfl rfl (Nat.le_of_ble_eq_true rfl) rfl q2 ?_
  refine xm_E_s (ls1 := [some (.ref l0), some (.int l1), some (.int l2), some (.int r0), some (.int r1), some (.int r2), none, none]) r_X11_moved_8 rfl rfl ?_
  refine xm_E_s r_X11_moved_9 rfl rfl ?_
  refine xm_E_cs [.int l1] [] r_X11_moved_10 rfl rfl rfl (Nat.le_of_ble_eq_true rfl) rfl q3 ?_
  refine xm_E_s (ls1 := [some (.ref l0), some (.int l1), some (.int l2), some (.int r0), some (.int r1), some (.int r2), some (.int r3), none]) r_X11_moved_11 rfl rfl ?_
  refine xm_E_s r_X11_moved_12 rfl rfl ?_
  refine xm_E_cs [.int l1] [] r_X11_moved_13 rfl rfl rfl (Nat.le_of_ble_eq_true rfl) rfl q4 ?_
  refine xm_E_s (ls1 := [some (.ref l0), some (.int l1), some (.int l2), some (.int r0), some (.int r1), some (.int r2), some (.int r3), some (.int r4)]) r_X11_moved_14 rfl rfl ?_
  refine xm_E_s r_X11_moved_15 rfl rfl ?_
  refine xm_E_s r_X11_moved_16 rfl rfl ?_
  refine xm_E_s r_X11_moved_17 rfl rfl ?_
  refine xm_E_f q5 ?_
  refine xm_E_s r_X11_moved_37 rfl rfl ?_
  refine xm_E_s r_X11_moved_38 rfl rfl ?_
  refine xm_E_t q6 ?_
  refine xm_E_s r_X11_moved_39 rfl rfl ?_
  refine xm_E_s r_X11_moved_40 rfl rfl ?_
  refine xm_E_s r_X11_moved_41 rfl rfl ?_
  refine xm_E_cv [.ref l0, .int l1, .int l2] [] r_X11_moved_42 rfl rfl (Nat.le_of_ble_eq_true rfl) (xm_rc q8 (by decide)) rfl q7 ?_
  refine xm_E_s r_X11_moved_43 rfl rfl ?_
  refine xm_E_f q9 ?_
  refine xm_E_s r_X11_moved_44 rfl rfl ?_
  refine xm_E_s r_X11_moved_45 rfl (xm_T_gi rfl q8 rfl (Or.inr rfl)) ?_
  refine xm_E_s r_X11_moved_46 rfl rfl ?_
  refine xm_E_t q10 ?_
  exact K
theorem p_X11_moved_0_5 {X : xm_X} {P : List xm_M} {d : Nat} {h : xm_H} {l0 : Nat} {l1 : Int32} {l2 : Int32} {h0 : xm_H} {r0 : Int32} {h1 : xm_H} {r1 : Int32} {h2 : xm_H} {r2 : Int32} {h3 : xm_H} {r3 : Int32} {h4 : xm_H} {r4 : Int32} {h5 : xm_H} {r5 : Int32} (q0 : xm_V X P d 224 [.int l1] h (some (.int r0)) h0) (q1 : xm_V X P d 225 [.int l1] h0 (some (.int r1)) h1) (q2 : xm_V X P d 226 [.int l1] h1 (some (.int r2)) h2) (q3 : xm_V X P d 227 [.int l1] h2 (some (.int r3)) h3) (q4 : xm_V X P d 228 [.int l1] h3 (some (.int r4)) h4) (q5 : ¬ (l2 = (9 : Int32))) (q6 : r4 = (0 : Int32)) (q7 : xm_V X P d 229 [.ref l0, .int l1, .int l2] h4 (some (.int r5)) h5) (q8 : X.1[l0]? = some (.inr 10)) (q9 : ¬ (r5 = (0 : Int32))) (q10 : ¬ (h5.1 l0 16 = (0 : Int32))) (q11 : l2 = (4 : Int32)) : xm_E X P d co_X11_moved 0 [some (.ref l0), some (.int l1), some (.int l2), none, none, none, none, none] [] h (some (.int (-1 : Int32))) h5 := by
  refine xm_E_s r_X11_moved_0 rfl rfl ?_
  refine xm_E_cs [.int l1] [] r_X11_moved_1 rfl rfl rfl (Nat.le_of_ble_eq_true rfl) rfl q0 ?_
  refine xm_E_s (ls1 := [some (.ref l0), some (.int l1), some (.int l2), some (.int r0), none, none, none, none]) r_X11_moved_2 rfl rfl ?_
  refine xm_E_s r_X11_moved_3 rfl rfl ?_
  refine xm_E_cs [.int l1] [] r_X11_moved_4 rfl rfl rfl (Nat.le_of_ble_eq_true rfl) rfl q1 ?_
  refine xm_E_s (ls1 := [some (.ref l0), some (.int l1), some (.int l2), some (.int r0), some (.int r1), none, none, none]) r_X11_moved_5 rfl rfl ?_
  refine xm_E_s r_X11_moved_6 rfl rfl ?_
  refine xm_E_cs [.int l1] [] r_X11_moved_7 rfl rfl rfl (Nat.le_of_ble_eq_true rfl) rfl q2 ?_
  refine xm_E_s (ls1 := [some (.ref l0), some (.int l1), some (.int l2), some (.int r0), some (.int r1), some (.int r2), none, none]) r_X11_moved_8 rfl rfl ?_
  refine xm_E_s r_X11_moved_9 rfl rfl ?_
  refine xm_E_cs [.int l1] [] r_X11_moved_10 rfl rfl rfl (Nat.le_of_ble_eq_true rfl) rfl q3 ?_
  refine xm_E_s (ls1 := [some (.ref l0), some (.int l1), some (.int l2), some (.int r0), some (.int r1), some (.int r2), some (.int r3), none]) r_X11_moved_11 rfl rfl ?_
  refine xm_E_s r_X11_moved_12 rfl rfl ?_
  refine xm_E_cs [.int l1] [] r_X11_moved_13 rfl rfl rfl (Nat.le_of_ble_eq_true rfl) rfl q4 ?_
  refine xm_E_s (ls1 := [some (.ref l0), some (.int l1), some (.int l2), some (.int r0), some (.int r1), some (.int r2), some (.int r3), some (.int r4)]) r_X11_moved_14 rfl rfl ?_
  refine xm_E_s r_X11_moved_15 rfl rfl ?_
  refine xm_E_s r_X11_moved_16 rfl rfl ?_
  refine xm_E_s r_X11_moved_17 rfl rfl ?_
  refine xm_E_f q5 ?_
  refine xm_E_s r_X11_moved_37 rfl rfl ?_
  refine xm_E_s r_X11_moved_38 rfl rfl ?_
  refine xm_E_t q6 ?_
  refine xm_E_s r_X11_moved_39 rfl rfl ?_
  refine xm_E_s r_X11_moved_40 rfl rfl ?_
  refine xm_E_s r_X11_moved_41 rfl rfl ?_
  refine xm_E_cv [.ref l0, .int l1, .int l2] [] r_X11_moved_42 rfl rfl (Nat.le_of_ble_eq_true rfl) (xm_rc q8 (by decide)) rfl q7 ?_
  refine xm_E_s r_X11_moved_43 rfl rfl ?_
  refine xm_E_f q9 ?_
  refine xm_E_s r_X11_moved_44 rfl rfl ?_
  refine xm_E_s r_X11_moved_45 rfl (xm_T_gi rfl q8 rfl (Or.inr rfl)) ?_
  refine xm_E_s r_X11_moved_46 rfl rfl ?_
  refine xm_E_f q10 ?_
  refine xm_E_s r_X11_moved_47 rfl rfl ?_
  refine xm_E_s r_X11_moved_48 rfl rfl ?_
  refine xm_E_s r_X11_moved_49 rfl rfl ?_
  refine xm_E_t q11 ?_
  refine xm_E_s r_X11_moved_53 rfl rfl ?_
  exact xm_E_iret r_X11_moved_54 rfl rfl
theorem p_X11_moved_0_6 {X : xm_X} {P : List xm_M} {d : Nat} {h : xm_H} {l0 : Nat} {l1 : Int32} {l2 : Int32} {h0 : xm_H} {r0 : Int32} {h1 : xm_H} {r1 : Int32} {h2 : xm_H} {r2 : Int32} {h3 : xm_H} {r3 : Int32} {h4 : xm_H} {r4 : Int32} {h5 : xm_H} {r5 : Int32} (q0 : xm_V X P d 224 [.int l1] h (some (.int r0)) h0) (q1 : xm_V X P d 225 [.int l1] h0 (some (.int r1)) h1) (q2 : xm_V X P d 226 [.int l1] h1 (some (.int r2)) h2) (q3 : xm_V X P d 227 [.int l1] h2 (some (.int r3)) h3) (q4 : xm_V X P d 228 [.int l1] h3 (some (.int r4)) h4) (q5 : ¬ (l2 = (9 : Int32))) (q6 : r4 = (0 : Int32)) (q7 : xm_V X P d 229 [.ref l0, .int l1, .int l2] h4 (some (.int r5)) h5) (q8 : X.1[l0]? = some (.inr 10)) (q9 : ¬ (r5 = (0 : Int32))) (q10 : ¬ (h5.1 l0 16 = (0 : Int32))) (q11 : ¬ (l2 = (4 : Int32))) (q12 : l2 = (5 : Int32)) : xm_E X P d co_X11_moved 0 [some (.ref l0), some (.int l1), some (.int l2), none, none, none, none, none] [] h (some (.int (-1 : Int32))) h5 := by
  refine xm_E_s r_X11_moved_0 rfl rfl ?_
  refine xm_E_cs [.int l1] [] r_X11_moved_1 rfl rfl rfl (Nat.le_of_ble_eq_true rfl) rfl q0 ?_
  refine xm_E_s (ls1 := [some (.ref l0), some (.int l1), some (.int l2), some (.int r0), none, none, none, none]) r_X11_moved_2 rfl rfl ?_
  refine xm_E_s r_X11_moved_3 rfl rfl ?_
  refine xm_E_cs [.int l1] [] r_X11_moved_4 rfl rfl rfl (Nat.le_of_ble_eq_true rfl) rfl q1 ?_
  refine xm_E_s (ls1 := [some (.ref l0), some (.int l1), some (.int l2), some (.int r0), some (.int r1), none, none, none]) r_X11_moved_5 rfl rfl ?_
  refine xm_E_s r_X11_moved_6 rfl rfl ?_
  refine xm_E_cs [.int l1] [] r_X11_moved_7 rfl rfl rfl (Nat.le_of_ble_eq_true rfl) rfl q2 ?_
  refine xm_E_s (ls1 := [some (.ref l0), some (.int l1), some (.int l2), some (.int r0), some (.int r1), some (.int r2), none, none]) r_X11_moved_8 rfl rfl ?_
  refine xm_E_s r_X11_moved_9 rfl rfl ?_
  refine xm_E_cs [.int l1] [] r_X11_moved_10 rfl rfl rfl (Nat.le_of_ble_eq_true rfl) rfl q3 ?_
  refine xm_E_s (ls1 := [some (.ref l0), some (.int l1), some (.int l2), some (.int r0), some (.int r1), some (.int r2), some (.int r3), none]) r_X11_moved_11 rfl rfl ?_
  refine xm_E_s r_X11_moved_12 rfl rfl ?_
  refine xm_E_cs [.int l1] [] r_X11_moved_13 rfl rfl rfl (Nat.le_of_ble_eq_true rfl) rfl q4 ?_
  refine xm_E_s (ls1 := [some (.ref l0), some (.int l1), some (.int l2), some (.int r0), some (.int r1), some (.int r2), some (.int r3), some (.int r4)]) r_X11_moved_14 rfl rfl ?_
  refine xm_E_s r_X11_moved_15 rfl rfl ?_
  refine xm_E_s r_X11_moved_16 rfl rfl ?_
  refine xm_E_s r_X11_moved_17 rfl rfl ?_
  refine xm_E_f q5 ?_
  refine xm_E_s r_X11_moved_37 rfl rfl ?_
  refine xm_E_s r_X11_moved_38 rfl rfl ?_
  refine xm_E_t q6 ?_
  refine xm_E_s r_X11_moved_39 rfl rfl ?_
  refine xm_E_s r_X11_moved_40 rfl rfl ?_
  refine xm_E_s r_X11_moved_41 rfl rfl ?_
  refine xm_E_cv [.ref l0, .int l1, .int l2] [] r_X11_moved_42 rfl rfl (Nat.le_of_ble_eq_true rfl) (xm_rc q8 (by decide)) rfl q7 ?_
  refine xm_E_s r_X11_moved_43 rfl rfl ?_
  refine xm_E_f q9 ?_
  refine xm_E_s r_X11_moved_44 rfl rfl ?_
  refine xm_E_s r_X11_moved_45 rfl (xm_T_gi rfl q8 rfl (Or.inr rfl)) ?_
  refine xm_E_s r_X11_moved_46 rfl rfl ?_
  refine xm_E_f q10 ?_
  refine xm_E_s r_X11_moved_47 rfl rfl ?_
  refine xm_E_s r_X11_moved_48 rfl rfl ?_
  refine xm_E_s r_X11_moved_49 rfl rfl ?_
  refine xm_E_f q11 ?_
  refine xm_E_s r_X11_moved_50 rfl rfl ?_
  refine xm_E_s r_X11_moved_51 rfl rfl ?_
  refine xm_E_s r_X11_moved_52 rfl rfl ?_
  refine xm_E_t q12 ?_
  refine xm_E_s r_X11_moved_53 rfl rfl ?_
  exact xm_E_iret r_X11_moved_54 rfl rfl
theorem p_X11_moved_0_7 {X : xm_X} {P : List xm_M} {d : Nat} {h : xm_H} {l0 : Nat} {l1 : Int32} {l2 : Int32} {h0 : xm_H} {r0 : Int32} {h1 : xm_H} {r1 : Int32} {h2 : xm_H} {r2 : Int32} {h3 : xm_H} {r3 : Int32} {h4 : xm_H} {r4 : Int32} {h5 : xm_H} {r5 : Int32} {ro : Option Value} {ho : xm_H} (q0 : xm_V X P d 224 [.int l1] h (some (.int r0)) h0) (q1 : xm_V X P d 225 [.int l1] h0 (some (.int r1)) h1) (q2 : xm_V X P d 226 [.int l1] h1 (some (.int r2)) h2) (q3 : xm_V X P d 227 [.int l1] h2 (some (.int r3)) h3) (q4 : xm_V X P d 228 [.int l1] h3 (some (.int r4)) h4) (q5 : ¬ (l2 = (9 : Int32))) (q6 : r4 = (0 : Int32)) (q7 : xm_V X P d 229 [.ref l0, .int l1, .int l2] h4 (some (.int r5)) h5) (q8 : X.1[l0]? = some (.inr 10)) (q9 : ¬ (r5 = (0 : Int32))) (q10 : ¬ (h5.1 l0 16 = (0 : Int32))) (q11 : ¬ (l2 = (4 : Int32))) (q12 : ¬ (l2 = (5 : Int32))) (K : xm_E X P d co_X11_moved 55 [some (.ref l0), some (.int l1), some (.int l2), some (.int r0), some (.int r1), some (.int r2), some (.int r3), some (.int r4)] [] h5 ro ho) : xm_E X P d co_X11_moved 0 [some (.ref l0), some (.int l1), some (.int l2), none, none, none, none, none] [] h ro ho := by
  refine xm_E_s r_X11_moved_0 rfl rfl ?_
  refine xm_E_cs [.int l1] [] r_X11_moved_1 rfl rfl rfl (Nat.le_of_ble_eq_true rfl) rfl q0 ?_
  refine xm_E_s (ls1 := [some (.ref l0), some (.int l1), some (.int l2), some (.int r0), none, none, none, none]) r_X11_moved_2 rfl rfl ?_
  refine xm_E_s r_X11_moved_3 rfl rfl ?_
  refine xm_E_cs [.int l1] [] r_X11_moved_4 rfl rfl rfl (Nat.le_of_ble_eq_true rfl) rfl q1 ?_
  refine xm_E_s (ls1 := [some (.ref l0), some (.int l1), some (.int l2), some (.int r0), some (.int r1), none, none, none]) r_X11_moved_5 rfl rfl ?_
  refine xm_E_s r_X11_moved_6 rfl rfl ?_
  refine xm_E_cs [.int l1] [] r_X11_moved_7 rfl rfl rfl (Nat.le_of_ble_eq_true rfl) rfl q2 ?_
  refine xm_E_s (ls1 := [some (.ref l0), some (.int l1), some (.int l2), some (.int r0), some (.int r1), some (.int r2), none, none]) r_X11_moved_8 rfl rfl ?_
  refine xm_E_s r_X11_moved_9 rfl rfl ?_
  refine xm_E_cs [.int l1] [] r_X11_moved_10 rfl rfl rfl (Nat.le_of_ble_eq_true rfl) rfl q3 ?_
  refine xm_E_s (ls1 := [some (.ref l0), some (.int l1), some (.int l2), some (.int r0), some (.int r1), some (.int r2), some (.int r3), none]) r_X11_moved_11 rfl rfl ?_
  refine xm_E_s r_X11_moved_12 rfl rfl ?_
  refine xm_E_cs [.int l1] [] r_X11_moved_13 rfl rfl rfl (Nat.le_of_ble_eq_true rfl) rfl q4 ?_
  refine xm_E_s (ls1 := [some (.ref l0), some (.int l1), some (.int l2), some (.int r0), some (.int r1), some (.int r2), some (.int r3), some (.int r4)]) r_X11_moved_14 rfl rfl ?_
  refine xm_E_s r_X11_moved_15 rfl rfl ?_
  refine xm_E_s r_X11_moved_16 rfl rfl ?_
  refine xm_E_s r_X11_moved_17 rfl rfl ?_
  refine xm_E_f q5 ?_
  refine xm_E_s r_X11_moved_37 rfl rfl ?_
  refine xm_E_s r_X11_moved_38 rfl rfl ?_
  refine xm_E_t q6 ?_
  refine xm_E_s r_X11_moved_39 rfl rfl ?_
  refine xm_E_s r_X11_moved_40 rfl rfl ?_
  refine xm_E_s r_X11_moved_41 rfl rfl ?_
  refine xm_E_cv [.ref l0, .int l1, .int l2] [] r_X11_moved_42 rfl rfl (Nat.le_of_ble_eq_true rfl) (xm_rc q8 (by decide)) rfl q7 ?_
  refine xm_E_s r_X11_moved_43 rfl rfl ?_
  refine xm_E_f q9 ?_
  refine xm_E_s r_X11_moved_44 rfl rfl ?_
  refine xm_E_s r_X11_moved_45 rfl (xm_T_gi rfl q8 rfl (Or.inr rfl)) ?_
  refine xm_E_s r_X11_moved_46 rfl rfl ?_
  refine xm_E_f q10 ?_
  refine xm_E_s r_X11_moved_47 rfl rfl ?_
  refine xm_E_s r_X11_moved_48 rfl rfl ?_
  refine xm_E_s r_X11_moved_49 rfl rfl ?_
  refine xm_E_f q11 ?_
  refine xm_E_s r_X11_moved_50 rfl rfl ?_
  refine xm_E_s r_X11_moved_51 rfl rfl ?_
  refine xm_E_s r_X11_moved_52 rfl rfl ?_
  refine xm_E_f q12 ?_
  exact K
theorem p_X11_moved_0_8 {X : xm_X} {P : List xm_M} {d : Nat} {h : xm_H} {l0 : Nat} {l1 : Int32} {l2 : Int32} {h0 : xm_H} {r0 : Int32} {h1 : xm_H} {r1 : Int32} {h2 : xm_H} {r2 : Int32} {h3 : xm_H} {r3 : Int32} {h4 : xm_H} {r4 : Int32} (q0 : xm_V X P d 224 [.int l1] h (some (.int r0)) h0) (q1 : xm_V X P d 225 [.int l1] h0 (some (.int r1)) h1) (q2 : xm_V X P d 226 [.int l1] h1 (some (.int r2)) h2) (q3 : xm_V X P d 227 [.int l1] h2 (some (.int r3)) h3) (q4 : xm_V X P d 228 [.int l1] h3 (some (.int r4)) h4) (q5 : ¬ (l2 = (9 : Int32))) (q6 : ¬ (r4 = (0 : Int32))) : xm_E X P d co_X11_moved 0 [some (.ref l0), some (.int l1), some (.int l2), none, none, none, none, none] [] h (some (.int (-1 : Int32))) h4 := by
  refine xm_E_s r_X11_moved_0 rfl rfl ?_
  refine xm_E_cs [.int l1] [] r_X11_moved_1 rfl rfl rfl (Nat.le_of_ble_eq_true rfl) rfl q0 ?_
  refine xm_E_s (ls1 := [some (.ref l0), some (.int l1), some (.int l2), some (.int r0), none, none, none, none]) r_X11_moved_2 rfl rfl ?_
  refine xm_E_s r_X11_moved_3 rfl rfl ?_
  refine xm_E_cs [.int l1] [] r_X11_moved_4 rfl rfl rfl (Nat.le_of_ble_eq_true rfl) rfl q1 ?_
  refine xm_E_s (ls1 := [some (.ref l0), some (.int l1), some (.int l2), some (.int r0), some (.int r1), none, none, none]) r_X11_moved_5 rfl rfl ?_
  refine xm_E_s r_X11_moved_6 rfl rfl ?_
  refine xm_E_cs [.int l1] [] r_X11_moved_7 rfl rfl rfl (Nat.le_of_ble_eq_true rfl) rfl q2 ?_
  refine xm_E_s (ls1 := [some (.ref l0), some (.int l1), some (.int l2), some (.int r0), some (.int r1), some (.int r2), none, none]) r_X11_moved_8 rfl rfl ?_
  refine xm_E_s r_X11_moved_9 rfl rfl ?_
  refine xm_E_cs [.int l1] [] r_X11_moved_10 rfl rfl rfl (Nat.le_of_ble_eq_true rfl) rfl q3 ?_
  refine xm_E_s (ls1 := [some (.ref l0), some (.int l1), some (.int l2), some (.int r0), some (.int r1), some (.int r2), some (.int r3), none]) r_X11_moved_11 rfl rfl ?_
  refine xm_E_s r_X11_moved_12 rfl rfl ?_
  refine xm_E_cs [.int l1] [] r_X11_moved_13 rfl rfl rfl (Nat.le_of_ble_eq_true rfl) rfl q4 ?_
  refine xm_E_s (ls1 := [some (.ref l0), some (.int l1), some (.int l2), some (.int r0), some (.int r1), some (.int r2), some (.int r3), some (.int r4)]) r_X11_moved_14 rfl rfl ?_
  refine xm_E_s r_X11_moved_15 rfl rfl ?_
  refine xm_E_s r_X11_moved_16 rfl rfl ?_
  refine xm_E_s r_X11_moved_17 rfl rfl ?_
  refine xm_E_f q5 ?_
  refine xm_E_s r_X11_moved_37 rfl rfl ?_
  refine xm_E_s r_X11_moved_38 rfl rfl ?_
  refine xm_E_f q6 ?_
  refine xm_E_s r_X11_moved_53 rfl rfl ?_
  exact xm_E_iret r_X11_moved_54 rfl rfl
theorem p_X11_moved_55_0 {X : xm_X} {P : List xm_M} {d : Nat} {h : xm_H} {l0 : Nat} {l1 : Int32} {l2 : Int32} {l3 : Int32} {l4 : Int32} {l5 : Int32} {l6 : Int32} {l7 : Int32} {h0 : xm_H} {r0 : Int32} (q0 : l2 = (0 : Int32)) (q1 : l4 - l4 / (2 : Int32) * (2 : Int32) = (0 : Int32)) (q2 : l5 = (0 : Int32)) (q3 : xm_V X P d 221 [.int l3, .int (l4 / (2 : Int32)), .int (1 : Int32), .int ((1 : Int32) - l6), .int (0 : Int32)] h (some (.int r0)) h0) : xm_E X P d co_X11_moved 55 [some (.ref l0), some (.int l1), some (.int l2), some (.int l3), some (.int l4), some (.int l5), some (.int l6), some (.int l7)] [] h (some (.int r0)) h0 := by
  refine xm_E_s r_X11_moved_55 rfl rfl ?_
  refine xm_E_s r_X11_moved_56 rfl (xm_T_tab (0 : Int32) 57 rfl q0 (by decide) rfl) ?_
  refine xm_E_s r_X11_moved_57 rfl rfl ?_
  refine xm_E_s r_X11_moved_58 rfl rfl ?_
  refine xm_E_s r_X11_moved_59 rfl (xm_T_irem rfl (by decide)) ?_
  refine xm_E_s r_X11_moved_60 rfl rfl ?_
  refine xm_E_t q1 ?_
  refine xm_E_s r_X11_moved_63 rfl rfl ?_
  refine xm_E_s r_X11_moved_64 rfl rfl ?_
  refine xm_E_s r_X11_moved_65 rfl rfl ?_
  refine xm_E_s r_X11_moved_66 rfl (xm_T_idiv rfl (by decide)) ?_
  refine xm_E_s r_X11_moved_67 rfl rfl ?_
  refine xm_E_s r_X11_moved_68 rfl rfl ?_
  refine xm_E_t q2 ?_
  refine xm_E_s r_X11_moved_69 rfl rfl ?_
  refine xm_E_s r_X11_moved_70 rfl rfl ?_
  refine xm_E_s r_X11_moved_72 rfl rfl ?_
  refine xm_E_s r_X11_moved_73 rfl rfl ?_
  refine xm_E_s r_X11_moved_74 rfl rfl ?_
  refine xm_E_s r_X11_moved_75 rfl rfl ?_
  refine xm_E_cs [.int l3, .int (l4 / (2 : Int32)), .int (1 : Int32), .int ((1 : Int32) - l6), .int (0 : Int32)] [] r_X11_moved_76 rfl rfl rfl (Nat.le_of_ble_eq_true rfl) rfl q3 ?_
  exact xm_E_iret r_X11_moved_77 rfl rfl
theorem p_X11_moved_55_1 {X : xm_X} {P : List xm_M} {d : Nat} {h : xm_H} {l0 : Nat} {l1 : Int32} {l2 : Int32} {l3 : Int32} {l4 : Int32} {l5 : Int32} {l6 : Int32} {l7 : Int32} {h0 : xm_H} {r0 : Int32} (q0 : l2 = (0 : Int32)) (q1 : l4 - l4 / (2 : Int32) * (2 : Int32) = (0 : Int32)) (q2 : ¬ (l5 = (0 : Int32))) (q3 : xm_V X P d 221 [.int l3, .int (l4 / (2 : Int32)), .int l5, .int ((1 : Int32) - l6), .int (0 : Int32)] h (some (.int r0)) h0) : xm_E X P d co_X11_moved 55 [some (.ref l0), some (.int l1), some (.int l2), some (.int l3), some (.int l4), some (.int l5), some (.int l6), some (.int l7)] [] h (some (.int r0)) h0 := by
  refine xm_E_s r_X11_moved_55 rfl rfl ?_
  refine xm_E_s r_X11_moved_56 rfl (xm_T_tab (0 : Int32) 57 rfl q0 (by decide) rfl) ?_
  refine xm_E_s r_X11_moved_57 rfl rfl ?_
  refine xm_E_s r_X11_moved_58 rfl rfl ?_
  refine xm_E_s r_X11_moved_59 rfl (xm_T_irem rfl (by decide)) ?_
  refine xm_E_s r_X11_moved_60 rfl rfl ?_
  refine xm_E_t q1 ?_
  refine xm_E_s r_X11_moved_63 rfl rfl ?_
  refine xm_E_s r_X11_moved_64 rfl rfl ?_
  refine xm_E_s r_X11_moved_65 rfl rfl ?_
  refine xm_E_s r_X11_moved_66 rfl (xm_T_idiv rfl (by decide)) ?_
  refine xm_E_s r_X11_moved_67 rfl rfl ?_
  refine xm_E_s r_X11_moved_68 rfl rfl ?_
  refine xm_E_f q2 ?_
  refine xm_E_s r_X11_moved_71 rfl rfl ?_
  refine xm_E_s r_X11_moved_72 rfl rfl ?_
  refine xm_E_s r_X11_moved_73 rfl rfl ?_
  refine xm_E_s r_X11_moved_74 rfl rfl ?_
  refine xm_E_s r_X11_moved_75 rfl rfl ?_
  refine xm_E_cs [.int l3, .int (l4 / (2 : Int32)), .int l5, .int ((1 : Int32) - l6), .int (0 : Int32)] [] r_X11_moved_76 rfl rfl rfl (Nat.le_of_ble_eq_true rfl) rfl q3 ?_
  exact xm_E_iret r_X11_moved_77 rfl rfl
theorem p_X11_moved_55_2 {X : xm_X} {P : List xm_M} {d : Nat} {h : xm_H} {l0 : Nat} {l1 : Int32} {l2 : Int32} {l3 : Int32} {l4 : Int32} {l5 : Int32} {l6 : Int32} {l7 : Int32} (q0 : l2 = (0 : Int32)) (q1 : ¬ (l4 - l4 / (2 : Int32) * (2 : Int32) = (0 : Int32))) : xm_E X P d co_X11_moved 55 [some (.ref l0), some (.int l1), some (.int l2), some (.int l3), some (.int l4), some (.int l5), some (.int l6), some (.int l7)] [] h (some (.int (-1 : Int32))) h := by
  refine xm_E_s r_X11_moved_55 rfl rfl ?_
  refine xm_E_s r_X11_moved_56 rfl (xm_T_tab (0 : Int32) 57 rfl q0 (by decide) rfl) ?_
  refine xm_E_s r_X11_moved_57 rfl rfl ?_
  refine xm_E_s r_X11_moved_58 rfl rfl ?_
  refine xm_E_s r_X11_moved_59 rfl (xm_T_irem rfl (by decide)) ?_
  refine xm_E_s r_X11_moved_60 rfl rfl ?_
  refine xm_E_f q1 ?_
  refine xm_E_s r_X11_moved_61 rfl rfl ?_
  refine xm_E_s r_X11_moved_62 rfl rfl ?_
  exact xm_E_iret r_X11_moved_77 rfl rfl
theorem p_X11_moved_55_3 {X : xm_X} {P : List xm_M} {d : Nat} {h : xm_H} {l0 : Nat} {l1 : Int32} {l2 : Int32} {l3 : Int32} {l4 : Int32} {l5 : Int32} {l6 : Int32} {l7 : Int32} {h0 : xm_H} {r0 : Int32} (q0 : l2 = (1 : Int32)) (q1 : l4 - l4 / (2 : Int32) * (2 : Int32) = (0 : Int32)) (q2 : l5 = (1 : Int32)) (q3 : xm_V X P d 221 [.int l3, .int (l4 / (2 : Int32)), .int (0 : Int32), .int l6, .int (0 : Int32)] h (some (.int r0)) h0) : xm_E X P d co_X11_moved 55 [some (.ref l0), some (.int l1), some (.int l2), some (.int l3), some (.int l4), some (.int l5), some (.int l6), some (.int l7)] [] h (some (.int r0)) h0 := by
  refine xm_E_s r_X11_moved_55 rfl rfl ?_
  refine xm_E_s r_X11_moved_56 rfl (xm_T_tab (1 : Int32) 78 rfl q0 (by decide) rfl) ?_
  refine xm_E_s r_X11_moved_78 rfl rfl ?_
  refine xm_E_s r_X11_moved_79 rfl rfl ?_
  refine xm_E_s r_X11_moved_80 rfl (xm_T_irem rfl (by decide)) ?_
  refine xm_E_s r_X11_moved_81 rfl rfl ?_
  refine xm_E_t q1 ?_
  refine xm_E_s r_X11_moved_84 rfl rfl ?_
  refine xm_E_s r_X11_moved_85 rfl rfl ?_
  refine xm_E_s r_X11_moved_86 rfl rfl ?_
  refine xm_E_s r_X11_moved_87 rfl (xm_T_idiv rfl (by decide)) ?_
  refine xm_E_s r_X11_moved_88 rfl rfl ?_
  refine xm_E_s r_X11_moved_89 rfl rfl ?_
  refine xm_E_s r_X11_moved_90 rfl rfl ?_
  refine xm_E_t q2 ?_
  refine xm_E_s r_X11_moved_91 rfl rfl ?_
  refine xm_E_s r_X11_moved_92 rfl rfl ?_
  refine xm_E_s r_X11_moved_94 rfl rfl ?_
  refine xm_E_s r_X11_moved_95 rfl rfl ?_
  refine xm_E_cs [.int l3, .int (l4 / (2 : Int32)), .int (0 : Int32), .int l6, .int (0 : Int32)] [] r_X11_moved_96 rfl rfl rfl (Nat.le_of_ble_eq_true rfl) rfl q3 ?_
  exact xm_E_iret r_X11_moved_97 rfl rfl
theorem p_X11_moved_55_4 {X : xm_X} {P : List xm_M} {d : Nat} {h : xm_H} {l0 : Nat} {l1 : Int32} {l2 : Int32} {l3 : Int32} {l4 : Int32} {l5 : Int32} {l6 : Int32} {l7 : Int32} {h0 : xm_H} {r0 : Int32} (q0 : l2 = (1 : Int32)) (q1 : l4 - l4 / (2 : Int32) * (2 : Int32) = (0 : Int32)) (q2 : ¬ (l5 = (1 : Int32))) (q3 : xm_V X P d 221 [.int l3, .int (l4 / (2 : Int32)), .int l5, .int l6, .int (0 : Int32)] h (some (.int r0)) h0) : xm_E X P d co_X11_moved 55 [some (.ref l0), some (.int l1), some (.int l2), some (.int l3), some (.int l4), some (.int l5), some (.int l6), some (.int l7)] [] h (some (.int r0)) h0 := by
  refine xm_E_s r_X11_moved_55 rfl rfl ?_
  refine xm_E_s r_X11_moved_56 rfl (xm_T_tab (1 : Int32) 78 rfl q0 (by decide) rfl) ?_
  refine xm_E_s r_X11_moved_78 rfl rfl ?_
  refine xm_E_s r_X11_moved_79 rfl rfl ?_
  refine xm_E_s r_X11_moved_80 rfl (xm_T_irem rfl (by decide)) ?_
  refine xm_E_s r_X11_moved_81 rfl rfl ?_
  refine xm_E_t q1 ?_
  refine xm_E_s r_X11_moved_84 rfl rfl ?_
  refine xm_E_s r_X11_moved_85 rfl rfl ?_
  refine xm_E_s r_X11_moved_86 rfl rfl ?_
  refine xm_E_s r_X11_moved_87 rfl (xm_T_idiv rfl (by decide)) ?_
  refine xm_E_s r_X11_moved_88 rfl rfl ?_
  refine xm_E_s r_X11_moved_89 rfl rfl ?_
  refine xm_E_s r_X11_moved_90 rfl rfl ?_
  refine xm_E_f q2 ?_
  refine xm_E_s r_X11_moved_93 rfl rfl ?_
  refine xm_E_s r_X11_moved_94 rfl rfl ?_
  refine xm_E_s r_X11_moved_95 rfl rfl ?_
  refine xm_E_cs [.int l3, .int (l4 / (2 : Int32)), .int l5, .int l6, .int (0 : Int32)] [] r_X11_moved_96 rfl rfl rfl (Nat.le_of_ble_eq_true rfl) rfl q3 ?_
  exact xm_E_iret r_X11_moved_97 rfl rfl
theorem p_X11_moved_55_5 {X : xm_X} {P : List xm_M} {d : Nat} {h : xm_H} {l0 : Nat} {l1 : Int32} {l2 : Int32} {l3 : Int32} {l4 : Int32} {l5 : Int32} {l6 : Int32} {l7 : Int32} (q0 : l2 = (1 : Int32)) (q1 : ¬ (l4 - l4 / (2 : Int32) * (2 : Int32) = (0 : Int32))) : xm_E X P d co_X11_moved 55 [some (.ref l0), some (.int l1), some (.int l2), some (.int l3), some (.int l4), some (.int l5), some (.int l6), some (.int l7)] [] h (some (.int (-1 : Int32))) h := by
  refine xm_E_s r_X11_moved_55 rfl rfl ?_
  refine xm_E_s r_X11_moved_56 rfl (xm_T_tab (1 : Int32) 78 rfl q0 (by decide) rfl) ?_
  refine xm_E_s r_X11_moved_78 rfl rfl ?_
  refine xm_E_s r_X11_moved_79 rfl rfl ?_
  refine xm_E_s r_X11_moved_80 rfl (xm_T_irem rfl (by decide)) ?_
  refine xm_E_s r_X11_moved_81 rfl rfl ?_
  refine xm_E_f q1 ?_
  refine xm_E_s r_X11_moved_82 rfl rfl ?_
  refine xm_E_s r_X11_moved_83 rfl rfl ?_
  exact xm_E_iret r_X11_moved_97 rfl rfl
theorem p_X11_moved_55_6 {X : xm_X} {P : List xm_M} {d : Nat} {h : xm_H} {l0 : Nat} {l1 : Int32} {l2 : Int32} {l3 : Int32} {l4 : Int32} {l5 : Int32} {l6 : Int32} {l7 : Int32} {h0 : xm_H} {r0 : Int32} (q0 : l2 = (2 : Int32)) (q1 : l4 - l4 / (3 : Int32) * (3 : Int32) = (0 : Int32)) (q2 : l5 = (0 : Int32)) (q3 : xm_V X P d 221 [.int l3, .int (l4 / (3 : Int32)), .int (4 : Int32), .int ((1 : Int32) - l6), .int (0 : Int32)] h (some (.int r0)) h0) : xm_E X P d co_X11_moved 55 [some (.ref l0), some (.int l1), some (.int l2), some (.int l3), some (.int l4), some (.int l5), some (.int l6), some (.int l7)] [] h (some (.int r0)) h0 := by
  refine xm_E_s r_X11_moved_55 rfl rfl ?_
  refine xm_E_s r_X11_moved_56 rfl (xm_T_tab (2 : Int32) 98 rfl q0 (by decide) rfl) ?_
  refine xm_E_s r_X11_moved_98 rfl rfl ?_
  refine xm_E_s r_X11_moved_99 rfl rfl ?_
  refine xm_E_s r_X11_moved_100 rfl (xm_T_irem rfl (by decide)) ?_
  refine xm_E_s r_X11_moved_101 rfl rfl ?_
  refine xm_E_t q1 ?_
  refine xm_E_s r_X11_moved_104 rfl rfl ?_
  refine xm_E_s r_X11_moved_105 rfl rfl ?_
  refine xm_E_s r_X11_moved_106 rfl rfl ?_
  refine xm_E_s r_X11_moved_107 rfl (xm_T_idiv rfl (by decide)) ?_
  refine xm_E_s r_X11_moved_108 rfl rfl ?_
  refine xm_E_s r_X11_moved_109 rfl rfl ?_
  refine xm_E_t q2 ?_
  refine xm_E_s r_X11_moved_113 rfl rfl ?_
  refine xm_E_s r_X11_moved_114 rfl rfl ?_
  refine xm_E_s r_X11_moved_116 rfl rfl ?_
  refine xm_E_s r_X11_moved_117 rfl rfl ?_
  refine xm_E_s r_X11_moved_118 rfl rfl ?_
  refine xm_E_s r_X11_moved_119 rfl rfl ?_
  refine xm_E_cs [.int l3, .int (l4 / (3 : Int32)), .int (4 : Int32), .int ((1 : Int32) - l6), .int (0 : Int32)] [] r_X11_moved_120 rfl rfl rfl (Nat.le_of_ble_eq_true rfl) rfl q3 ?_
  exact xm_E_iret r_X11_moved_121 rfl rfl
theorem p_X11_moved_55_7 {X : xm_X} {P : List xm_M} {d : Nat} {h : xm_H} {l0 : Nat} {l1 : Int32} {l2 : Int32} {l3 : Int32} {l4 : Int32} {l5 : Int32} {l6 : Int32} {l7 : Int32} {h0 : xm_H} {r0 : Int32} (q0 : l2 = (2 : Int32)) (q1 : l4 - l4 / (3 : Int32) * (3 : Int32) = (0 : Int32)) (q2 : ¬ (l5 = (0 : Int32))) (q3 : l5 = (1 : Int32)) (q4 : xm_V X P d 221 [.int l3, .int (l4 / (3 : Int32)), .int (4 : Int32), .int ((1 : Int32) - l6), .int (0 : Int32)] h (some (.int r0)) h0) : xm_E X P d co_X11_moved 55 [some (.ref l0), some (.int l1), some (.int l2), some (.int l3), some (.int l4), some (.int l5), some (.int l6), some (.int l7)] [] h (some (.int r0)) h0 := by
  refine xm_E_s r_X11_moved_55 rfl rfl ?_
  refine xm_E_s r_X11_moved_56 rfl (xm_T_tab (2 : Int32) 98 rfl q0 (by decide) rfl) ?_
  refine xm_E_s r_X11_moved_98 rfl rfl ?_
  refine xm_E_s r_X11_moved_99 rfl rfl ?_
  refine xm_E_s r_X11_moved_100 rfl (xm_T_irem rfl (by decide)) ?_
  refine xm_E_s r_X11_moved_101 rfl rfl ?_
  refine xm_E_t q1 ?_
  refine xm_E_s r_X11_moved_104 rfl rfl ?_
  refine xm_E_s r_X11_moved_105 rfl rfl ?_
  refine xm_E_s r_X11_moved_106 rfl rfl ?_
  refine xm_E_s r_X11_moved_107 rfl (xm_T_idiv rfl (by decide)) ?_
  refine xm_E_s r_X11_moved_108 rfl rfl ?_
  refine xm_E_s r_X11_moved_109 rfl rfl ?_
  refine xm_E_f q2 ?_
  refine xm_E_s r_X11_moved_110 rfl rfl ?_
  refine xm_E_s r_X11_moved_111 rfl rfl ?_
  refine xm_E_s r_X11_moved_112 rfl rfl ?_
  refine xm_E_t q3 ?_
  refine xm_E_s r_X11_moved_113 rfl rfl ?_
  refine xm_E_s r_X11_moved_114 rfl rfl ?_
  refine xm_E_s r_X11_moved_116 rfl rfl ?_
  refine xm_E_s r_X11_moved_117 rfl rfl ?_
  refine xm_E_s r_X11_moved_118 rfl rfl ?_
  refine xm_E_s r_X11_moved_119 rfl rfl ?_
  refine xm_E_cs [.int l3, .int (l4 / (3 : Int32)), .int (4 : Int32), .int ((1 : Int32) - l6), .int (0 : Int32)] [] r_X11_moved_120 rfl rfl rfl (Nat.le_of_ble_eq_true rfl) rfl q4 ?_
  exact xm_E_iret r_X11_moved_121 rfl rfl
theorem p_X11_moved_55_8 {X : xm_X} {P : List xm_M} {d : Nat} {h : xm_H} {l0 : Nat} {l1 : Int32} {l2 : Int32} {l3 : Int32} {l4 : Int32} {l5 : Int32} {l6 : Int32} {l7 : Int32} {h0 : xm_H} {r0 : Int32} (q0 : l2 = (2 : Int32)) (q1 : l4 - l4 / (3 : Int32) * (3 : Int32) = (0 : Int32)) (q2 : ¬ (l5 = (0 : Int32))) (q3 : ¬ (l5 = (1 : Int32))) (q4 : xm_V X P d 221 [.int l3, .int (l4 / (3 : Int32)), .int l5, .int ((1 : Int32) - l6), .int (0 : Int32)] h (some (.int r0)) h0) : xm_E X P d co_X11_moved 55 [some (.ref l0), some (.int l1), some (.int l2), some (.int l3), some (.int l4), some (.int l5), some (.int l6), some (.int l7)] [] h (some (.int r0)) h0 := by
  refine xm_E_s r_X11_moved_55 rfl rfl ?_
  refine xm_E_s r_X11_moved_56 rfl (xm_T_tab (2 : Int32) 98 rfl q0 (by decide) rfl) ?_
  refine xm_E_s r_X11_moved_98 rfl rfl ?_
  refine xm_E_s r_X11_moved_99 rfl rfl ?_
  refine xm_E_s r_X11_moved_100 rfl (xm_T_irem rfl (by decide)) ?_
  refine xm_E_s r_X11_moved_101 rfl rfl ?_
  refine xm_E_t q1 ?_
  refine xm_E_s r_X11_moved_104 rfl rfl ?_
  refine xm_E_s r_X11_moved_105 rfl rfl ?_
  refine xm_E_s r_X11_moved_106 rfl rfl ?_
  refine xm_E_s r_X11_moved_107 rfl (xm_T_idiv rfl (by decide)) ?_
  refine xm_E_s r_X11_moved_108 rfl rfl ?_
  refine xm_E_s r_X11_moved_109 rfl rfl ?_
  refine xm_E_f q2 ?_
  refine xm_E_s r_X11_moved_110 rfl rfl ?_
  refine xm_E_s r_X11_moved_111 rfl rfl ?_
  refine xm_E_s r_X11_moved_112 rfl rfl ?_
  refine xm_E_f q3 ?_
  refine xm_E_s r_X11_moved_115 rfl rfl ?_
  refine xm_E_s r_X11_moved_116 rfl rfl ?_
  refine xm_E_s r_X11_moved_117 rfl rfl ?_
  refine xm_E_s r_X11_moved_118 rfl rfl ?_
  refine xm_E_s r_X11_moved_119 rfl rfl ?_
  refine xm_E_cs [.int l3, .int (l4 / (3 : Int32)), .int l5, .int ((1 : Int32) - l6), .int (0 : Int32)] [] r_X11_moved_120 rfl rfl rfl (Nat.le_of_ble_eq_true rfl) rfl q4 ?_
  exact xm_E_iret r_X11_moved_121 rfl rfl
theorem p_X11_moved_55_9 {X : xm_X} {P : List xm_M} {d : Nat} {h : xm_H} {l0 : Nat} {l1 : Int32} {l2 : Int32} {l3 : Int32} {l4 : Int32} {l5 : Int32} {l6 : Int32} {l7 : Int32} (q0 : l2 = (2 : Int32)) (q1 : ¬ (l4 - l4 / (3 : Int32) * (3 : Int32) = (0 : Int32))) : xm_E X P d co_X11_moved 55 [some (.ref l0), some (.int l1), some (.int l2), some (.int l3), some (.int l4), some (.int l5), some (.int l6), some (.int l7)] [] h (some (.int (-1 : Int32))) h := by
  refine xm_E_s r_X11_moved_55 rfl rfl ?_
  refine xm_E_s r_X11_moved_56 rfl (xm_T_tab (2 : Int32) 98 rfl q0 (by decide) rfl) ?_
  refine xm_E_s r_X11_moved_98 rfl rfl ?_
  refine xm_E_s r_X11_moved_99 rfl rfl ?_
  refine xm_E_s r_X11_moved_100 rfl (xm_T_irem rfl (by decide)) ?_
  refine xm_E_s r_X11_moved_101 rfl rfl ?_
  refine xm_E_f q1 ?_
  refine xm_E_s r_X11_moved_102 rfl rfl ?_
  refine xm_E_s r_X11_moved_103 rfl rfl ?_
  exact xm_E_iret r_X11_moved_121 rfl rfl
theorem p_X11_moved_55_10 {X : xm_X} {P : List xm_M} {d : Nat} {h : xm_H} {l0 : Nat} {l1 : Int32} {l2 : Int32} {l3 : Int32} {l4 : Int32} {l5 : Int32} {l6 : Int32} {l7 : Int32} {h0 : xm_H} {r0 : Int32} (q0 : l2 = (3 : Int32)) (q1 : l3 - l3 / (2 : Int32) * (2 : Int32) = (0 : Int32)) (q2 : l5 = (2 : Int32)) (q3 : xm_V X P d 221 [.int (l3 / (2 : Int32)), .int l4, .int (3 : Int32), .int ((1 : Int32) - l6), .int (0 : Int32)] h (some (.int r0)) h0) : xm_E X P d co_X11_moved 55 [some (.ref l0), some (.int l1), some (.int l2), some (.int l3), some (.int l4), some (.int l5), some (.int l6), some (.int l7)] [] h (some (.int r0)) h0 := by
  refine xm_E_s r_X11_moved_55 rfl rfl ?_
  refine xm_E_s r_X11_moved_56 rfl (xm_T_tab (3 : Int32) 122 rfl q0 (by decide) rfl) ?_
  refine xm_E_s r_X11_moved_122 rfl rfl ?_
  refine xm_E_s r_X11_moved_123 rfl rfl ?_
  refine xm_E_s r_X11_moved_124 rfl (xm_T_irem rfl (by decide)) ?_
  refine xm_E_s r_X11_moved_125 rfl rfl ?_
  refine xm_E_t q1 ?_
  refine xm_E_s r_X11_moved_128 rfl rfl ?_
  refine xm_E_s r_X11_moved_129 rfl rfl ?_
  refine xm_E_s r_X11_moved_130 rfl (xm_T_idiv rfl (by decide)) ?_
  refine xm_E_s r_X11_moved_131 rfl rfl ?_
  refine xm_E_s r_X11_moved_132 rfl rfl ?_
  refine xm_E_s r_X11_moved_133 rfl rfl ?_
  refine xm_E_s r_X11_moved_134 rfl rfl ?_
  refine xm_E_t q2 ?_
  refine xm_E_s r_X11_moved_135 rfl rfl ?_
  refine xm_E_s r_X11_moved_136 rfl rfl ?_
  refine xm_E_s r_X11_moved_138 rfl rfl ?_
  refine xm_E_s r_X11_moved_139 rfl rfl ?_
  refine xm_E_s r_X11_moved_140 rfl rfl ?_
  refine xm_E_s r_X11_moved_141 rfl rfl ?_
  refine xm_E_cs [.int (l3 / (2 : Int32)), .int l4, .int (3 : Int32), .int ((1 : Int32) - l6), .int (0 : Int32)] [] r_X11_moved_142 rfl rfl rfl (Nat.le_of_ble_eq_true rfl) rfl q3 ?_
  exact xm_E_iret r_X11_moved_143 rfl rfl
theorem p_X11_moved_55_11 {X : xm_X} {P : List xm_M} {d : Nat} {h : xm_H} {l0 : Nat} {l1 : Int32} {l2 : Int32} {l3 : Int32} {l4 : Int32} {l5 : Int32} {l6 : Int32} {l7 : Int32} {h0 : xm_H} {r0 : Int32} (q0 : l2 = (3 : Int32)) (q1 : l3 - l3 / (2 : Int32) * (2 : Int32) = (0 : Int32)) (q2 : ¬ (l5 = (2 : Int32))) (q3 : xm_V X P d 221 [.int (l3 / (2 : Int32)), .int l4, .int l5, .int ((1 : Int32) - l6), .int (0 : Int32)] h (some (.int r0)) h0) : xm_E X P d co_X11_moved 55 [some (.ref l0), some (.int l1), some (.int l2), some (.int l3), some (.int l4), some (.int l5), some (.int l6), some (.int l7)] [] h (some (.int r0)) h0 := by
  refine xm_E_s r_X11_moved_55 rfl rfl ?_
  refine xm_E_s r_X11_moved_56 rfl (xm_T_tab (3 : Int32) 122 rfl q0 (by decide) rfl) ?_
  refine xm_E_s r_X11_moved_122 rfl rfl ?_
  refine xm_E_s r_X11_moved_123 rfl rfl ?_
  refine xm_E_s r_X11_moved_124 rfl (xm_T_irem rfl (by decide)) ?_
  refine xm_E_s r_X11_moved_125 rfl rfl ?_
  refine xm_E_t q1 ?_
  refine xm_E_s r_X11_moved_128 rfl rfl ?_
  refine xm_E_s r_X11_moved_129 rfl rfl ?_
  refine xm_E_s r_X11_moved_130 rfl (xm_T_idiv rfl (by decide)) ?_
  refine xm_E_s r_X11_moved_131 rfl rfl ?_
  refine xm_E_s r_X11_moved_132 rfl rfl ?_
  refine xm_E_s r_X11_moved_133 rfl rfl ?_
  refine xm_E_s r_X11_moved_134 rfl rfl ?_
  refine xm_E_f q2 ?_
  refine xm_E_s r_X11_moved_137 rfl rfl ?_
  refine xm_E_s r_X11_moved_138 rfl rfl ?_
  refine xm_E_s r_X11_moved_139 rfl rfl ?_
  refine xm_E_s r_X11_moved_140 rfl rfl ?_
  refine xm_E_s r_X11_moved_141 rfl rfl ?_
  refine xm_E_cs [.int (l3 / (2 : Int32)), .int l4, .int l5, .int ((1 : Int32) - l6), .int (0 : Int32)] [] r_X11_moved_142 rfl rfl rfl (Nat.le_of_ble_eq_true rfl) rfl q3 ?_
  exact xm_E_iret r_X11_moved_143 rfl rfl
theorem p_X11_moved_55_12 {X : xm_X} {P : List xm_M} {d : Nat} {h : xm_H} {l0 : Nat} {l1 : Int32} {l2 : Int32} {l3 : Int32} {l4 : Int32} {l5 : Int32} {l6 : Int32} {l7 : Int32} (q0 : l2 = (3 : Int32)) (q1 : ¬ (l3 - l3 / (2 : Int32) * (2 : Int32) = (0 : Int32))) : xm_E X P d co_X11_moved 55 [some (.ref l0), some (.int l1), some (.int l2), some (.int l3), some (.int l4), some (.int l5), some (.int l6), some (.int l7)] [] h (some (.int (-1 : Int32))) h := by
  refine xm_E_s r_X11_moved_55 rfl rfl ?_
  refine xm_E_s r_X11_moved_56 rfl (xm_T_tab (3 : Int32) 122 rfl q0 (by decide) rfl) ?_
  refine xm_E_s r_X11_moved_122 rfl rfl ?_
  refine xm_E_s r_X11_moved_123 rfl rfl ?_
  refine xm_E_s r_X11_moved_124 rfl (xm_T_irem rfl (by decide)) ?_
  refine xm_E_s r_X11_moved_125 rfl rfl ?_
  refine xm_E_f q1 ?_
  refine xm_E_s r_X11_moved_126 rfl rfl ?_
  refine xm_E_s r_X11_moved_127 rfl rfl ?_
  exact xm_E_iret r_X11_moved_143 rfl rfl
theorem p_X11_moved_55_13 {X : xm_X} {P : List xm_M} {d : Nat} {h : xm_H} {l0 : Nat} {l1 : Int32} {l2 : Int32} {l3 : Int32} {l4 : Int32} {l5 : Int32} {l6 : Int32} {l7 : Int32} {h0 : xm_H} {r0 : Int32} (q0 : l2 = (4 : Int32)) (q1 : l3 - l3 / (2 : Int32) * (2 : Int32) = (0 : Int32)) (q2 : l5 = (3 : Int32)) (q3 : xm_V X P d 221 [.int (l3 / (2 : Int32)), .int l4, .int (2 : Int32), .int l6, .int (0 : Int32)] h (some (.int r0)) h0) : xm_E X P d co_X11_moved 55 [some (.ref l0), some (.int l1), some (.int l2), some (.int l3), some (.int l4), some (.int l5), some (.int l6), some (.int l7)] [] h (some (.int r0)) h0 := by
  refine xm_E_s r_X11_moved_55 rfl rfl ?_
  refine xm_E_s r_X11_moved_56 rfl (xm_T_tab (4 : Int32) 144 rfl q0 (by decide) rfl) ?_
  refine xm_E_s r_X11_moved_144 rfl rfl ?_
  refine xm_E_s r_X11_moved_145 rfl rfl ?_
  refine xm_E_s r_X11_moved_146 rfl (xm_T_irem rfl (by decide)) ?_
  refine xm_E_s r_X11_moved_147 rfl rfl ?_
  refine xm_E_t q1 ?_
  refine xm_E_s r_X11_moved_150 rfl rfl ?_
  refine xm_E_s r_X11_moved_151 rfl rfl ?_
  refine xm_E_s r_X11_moved_152 rfl (xm_T_idiv rfl (by decide)) ?_
  refine xm_E_s r_X11_moved_153 rfl rfl ?_
  refine xm_E_s r_X11_moved_154 rfl rfl ?_
  refine xm_E_s r_X11_moved_155 rfl rfl ?_
  refine xm_E_s r_X11_moved_156 rfl rfl ?_
  refine xm_E_t q2 ?_
  refine xm_E_s r_X11_moved_157 rfl rfl ?_
  refine xm_E_s r_X11_moved_158 rfl rfl ?_
  refine xm_E_s r_X11_moved_160 rfl rfl ?_
  refine xm_E_s r_X11_moved_161 rfl rfl ?_
  refine xm_E_cs [.int (l3 / (2 : Int32)), .int l4, .int (2 : Int32), .int l6, .int (0 : Int32)] [] r_X11_moved_162 rfl rfl rfl (Nat.le_of_ble_eq_true rfl) rfl q3 ?_
  exact xm_E_iret r_X11_moved_163 rfl rfl
theorem p_X11_moved_55_14 {X : xm_X} {P : List xm_M} {d : Nat} {h : xm_H} {l0 : Nat} {l1 : Int32} {l2 : Int32} {l3 : Int32} {l4 : Int32} {l5 : Int32} {l6 : Int32} {l7 : Int32} {h0 : xm_H} {r0 : Int32} (q0 : l2 = (4 : Int32)) (q1 : l3 - l3 / (2 : Int32) * (2 : Int32) = (0 : Int32)) (q2 : ¬ (l5 = (3 : Int32))) (q3 : xm_V X P d 221 [.int (l3 / (2 : Int32)), .int l4, .int l5, .int l6, .int (0 : Int32)] h (some (.int r0)) h0) : xm_E X P d co_X11_moved 55 [some (.ref l0), some (.int l1), some (.int l2), some (.int l3), some (.int l4), some (.int l5), some (.int l6), some (.int l7)] [] h (some (.int r0)) h0 := by
  refine xm_E_s r_X11_moved_55 rfl rfl ?_
  refine xm_E_s r_X11_moved_56 rfl (xm_T_tab (4 : Int32) 144 rfl q0 (by decide) rfl) ?_
  refine xm_E_s r_X11_moved_144 rfl rfl ?_
  refine xm_E_s r_X11_moved_145 rfl rfl ?_
  refine xm_E_s r_X11_moved_146 rfl (xm_T_irem rfl (by decide)) ?_
  refine xm_E_s r_X11_moved_147 rfl rfl ?_
  refine xm_E_t q1 ?_
  refine xm_E_s r_X11_moved_150 rfl rfl ?_
  refine xm_E_s r_X11_moved_151 rfl rfl ?_
  refine xm_E_s r_X11_moved_152 rfl (xm_T_idiv rfl (by decide)) ?_
  refine xm_E_s r_X11_moved_153 rfl rfl ?_
  refine xm_E_s r_X11_moved_154 rfl rfl ?_
  refine xm_E_s r_X11_moved_155 rfl rfl ?_
  refine xm_E_s r_X11_moved_156 rfl rfl ?_
  refine xm_E_f q2 ?_
  refine xm_E_s r_X11_moved_159 rfl rfl ?_
  refine xm_E_s r_X11_moved_160 rfl rfl ?_
  refine xm_E_s r_X11_moved_161 rfl rfl ?_
  refine xm_E_cs [.int (l3 / (2 : Int32)), .int l4, .int l5, .int l6, .int (0 : Int32)] [] r_X11_moved_162 rfl rfl rfl (Nat.le_of_ble_eq_true rfl) rfl q3 ?_
  exact xm_E_iret r_X11_moved_163 rfl rfl
theorem p_X11_moved_55_15 {X : xm_X} {P : List xm_M} {d : Nat} {h : xm_H} {l0 : Nat} {l1 : Int32} {l2 : Int32} {l3 : Int32} {l4 : Int32} {l5 : Int32} {l6 : Int32} {l7 : Int32} (q0 : l2 = (4 : Int32)) (q1 : ¬ (l3 - l3 / (2 : Int32) * (2 : Int32) = (0 : Int32))) : xm_E X P d co_X11_moved 55 [some (.ref l0), some (.int l1), some (.int l2), some (.int l3), some (.int l4), some (.int l5), some (.int l6), some (.int l7)] [] h (some (.int (-1 : Int32))) h := by
  refine xm_E_s r_X11_moved_55 rfl rfl ?_
  refine xm_E_s r_X11_moved_56 rfl (xm_T_tab (4 : Int32) 144 rfl q0 (by decide) rfl) ?_
  refine xm_E_s r_X11_moved_144 rfl rfl ?_
  refine xm_E_s r_X11_moved_145 rfl rfl ?_
  refine xm_E_s r_X11_moved_146 rfl (xm_T_irem rfl (by decide)) ?_
  refine xm_E_s r_X11_moved_147 rfl rfl ?_
  refine xm_E_f q1 ?_
  refine xm_E_s r_X11_moved_148 rfl rfl ?_
  refine xm_E_s r_X11_moved_149 rfl rfl ?_
  exact xm_E_iret r_X11_moved_163 rfl rfl
theorem p_X11_moved_55_16 {X : xm_X} {P : List xm_M} {d : Nat} {h : xm_H} {l0 : Nat} {l1 : Int32} {l2 : Int32} {l3 : Int32} {l4 : Int32} {l5 : Int32} {l6 : Int32} {l7 : Int32} {h0 : xm_H} {r0 : Int32} (q0 : l2 = (5 : Int32)) (q1 : l3 - l3 / (2 : Int32) * (2 : Int32) = (0 : Int32)) (q2 : l5 = (2 : Int32)) (q3 : xm_V X P d 221 [.int (l3 / (2 : Int32)), .int l4, .int (4 : Int32), .int ((1 : Int32) - l6), .int (0 : Int32)] h (some (.int r0)) h0) : xm_E X P d co_X11_moved 55 [some (.ref l0), some (.int l1), some (.int l2), some (.int l3), some (.int l4), some (.int l5), some (.int l6), some (.int l7)] [] h (some (.int r0)) h0 := by
  refine xm_E_s r_X11_moved_55 rfl rfl ?_
  refine xm_E_s r_X11_moved_56 rfl (xm_T_tab (5 : Int32) 164 rfl q0 (by decide) rfl) ?_
  refine xm_E_s r_X11_moved_164 rfl rfl ?_
  refine xm_E_s r_X11_moved_165 rfl rfl ?_
  refine xm_E_s r_X11_moved_166 rfl (xm_T_irem rfl (by decide)) ?_
  refine xm_E_s r_X11_moved_167 rfl rfl ?_
  refine xm_E_t q1 ?_
  refine xm_E_s r_X11_moved_170 rfl rfl ?_
  refine xm_E_s r_X11_moved_171 rfl rfl ?_
  refine xm_E_s r_X11_moved_172 rfl (xm_T_idiv rfl (by decide)) ?_
  refine xm_E_s r_X11_moved_173 rfl rfl ?_
  refine xm_E_s r_X11_moved_174 rfl rfl ?_
  refine xm_E_s r_X11_moved_175 rfl rfl ?_
  refine xm_E_s r_X11_moved_176 rfl rfl ?_
  refine xm_E_t q2 ?_
  refine xm_E_s r_X11_moved_180 rfl rfl ?_
  refine xm_E_s r_X11_moved_181 rfl rfl ?_
  refine xm_E_s r_X11_moved_183 rfl rfl ?_
  refine xm_E_s r_X11_moved_184 rfl rfl ?_
  refine xm_E_s r_X11_moved_185 rfl rfl ?_
  refine xm_E_s r_X11_moved_186 rfl rfl ?_
  refine xm_E_cs [.int (l3 / (2 : Int32)), .int l4, .int (4 : Int32), .int ((1 : Int32) - l6), .int (0 : Int32)] [] r_X11_moved_187 rfl rfl rfl (Nat.le_of_ble_eq_true rfl) rfl q3 ?_
  exact xm_E_iret r_X11_moved_188 rfl rfl
theorem p_X11_moved_55_17 {X : xm_X} {P : List xm_M} {d : Nat} {h : xm_H} {l0 : Nat} {l1 : Int32} {l2 : Int32} {l3 : Int32} {l4 : Int32} {l5 : Int32} {l6 : Int32} {l7 : Int32} {h0 : xm_H} {r0 : Int32} (q0 : l2 = (5 : Int32)) (q1 : l3 - l3 / (2 : Int32) * (2 : Int32) = (0 : Int32)) (q2 : ¬ (l5 = (2 : Int32))) (q3 : l5 = (3 : Int32)) (q4 : xm_V X P d 221 [.int (l3 / (2 : Int32)), .int l4, .int (4 : Int32), .int ((1 : Int32) - l6), .int (0 : Int32)] h (some (.int r0)) h0) : xm_E X P d co_X11_moved 55 [some (.ref l0), some (.int l1), some (.int l2), some (.int l3), some (.int l4), some (.int l5), some (.int l6), some (.int l7)] [] h (some (.int r0)) h0 := by
  refine xm_E_s r_X11_moved_55 rfl rfl ?_
  refine xm_E_s r_X11_moved_56 rfl (xm_T_tab (5 : Int32) 164 rfl q0 (by decide) rfl) ?_
  refine xm_E_s r_X11_moved_164 rfl rfl ?_
  refine xm_E_s r_X11_moved_165 rfl rfl ?_
  refine xm_E_s r_X11_moved_166 rfl (xm_T_irem rfl (by decide)) ?_
  refine xm_E_s r_X11_moved_167 rfl rfl ?_
  refine xm_E_t q1 ?_
  refine xm_E_s r_X11_moved_170 rfl rfl ?_
  refine xm_E_s r_X11_moved_171 rfl rfl ?_
  refine xm_E_s r_X11_moved_172 rfl (xm_T_idiv rfl (by decide)) ?_
  refine xm_E_s r_X11_moved_173 rfl rfl ?_
  refine xm_E_s r_X11_moved_174 rfl rfl ?_
  refine xm_E_s r_X11_moved_175 rfl rfl ?_
  refine xm_E_s r_X11_moved_176 rfl rfl ?_
  refine xm_E_f q2 ?_
  refine xm_E_s r_X11_moved_177 rfl rfl ?_
  refine xm_E_s r_X11_moved_178 rfl rfl ?_
  refine xm_E_s r_X11_moved_179 rfl rfl ?_
  refine xm_E_t q3 ?_
  refine xm_E_s r_X11_moved_180 rfl rfl ?_
  refine xm_E_s r_X11_moved_181 rfl rfl ?_
  refine xm_E_s r_X11_moved_183 rfl rfl ?_
  refine xm_E_s r_X11_moved_184 rfl rfl ?_
  refine xm_E_s r_X11_moved_185 rfl rfl ?_
  refine xm_E_s r_X11_moved_186 rfl rfl ?_
  refine xm_E_cs [.int (l3 / (2 : Int32)), .int l4, .int (4 : Int32), .int ((1 : Int32) - l6), .int (0 : Int32)] [] r_X11_moved_187 rfl rfl rfl (Nat.le_of_ble_eq_true rfl) rfl q4 ?_
  exact xm_E_iret r_X11_moved_188 rfl rfl
theorem p_X11_moved_55_18 {X : xm_X} {P : List xm_M} {d : Nat} {h : xm_H} {l0 : Nat} {l1 : Int32} {l2 : Int32} {l3 : Int32} {l4 : Int32} {l5 : Int32} {l6 : Int32} {l7 : Int32} {h0 : xm_H} {r0 : Int32} (q0 : l2 = (5 : Int32)) (q1 : l3 - l3 / (2 : Int32) * (2 : Int32) = (0 : Int32)) (q2 : ¬ (l5 = (2 : Int32))) (q3 : ¬ (l5 = (3 : Int32))) (q4 : xm_V X P d 221 [.int (l3 / (2 : Int32)), .int l4, .int l5, .int ((1 : Int32) - l6), .int (0 : Int32)] h (some (.int r0)) h0) : xm_E X P d co_X11_moved 55 [some (.ref l0), some (.int l1), some (.int l2), some (.int l3), some (.int l4), some (.int l5), some (.int l6), some (.int l7)] [] h (some (.int r0)) h0 := by
  refine xm_E_s r_X11_moved_55 rfl rfl ?_
  refine xm_E_s r_X11_moved_56 rfl (xm_T_tab (5 : Int32) 164 rfl q0 (by decide) rfl) ?_
  refine xm_E_s r_X11_moved_164 rfl rfl ?_
  refine xm_E_s r_X11_moved_165 rfl rfl ?_
  refine xm_E_s r_X11_moved_166 rfl (xm_T_irem rfl (by decide)) ?_
  refine xm_E_s r_X11_moved_167 rfl rfl ?_
  refine xm_E_t q1 ?_
  refine xm_E_s r_X11_moved_170 rfl rfl ?_
  refine xm_E_s r_X11_moved_171 rfl rfl ?_
  refine xm_E_s r_X11_moved_172 rfl (xm_T_idiv rfl (by decide)) ?_
  refine xm_E_s r_X11_moved_173 rfl rfl ?_
  refine xm_E_s r_X11_moved_174 rfl rfl ?_
  refine xm_E_s r_X11_moved_175 rfl rfl ?_
  refine xm_E_s r_X11_moved_176 rfl rfl ?_
  refine xm_E_f q2 ?_
  refine xm_E_s r_X11_moved_177 rfl rfl ?_
  refine xm_E_s r_X11_moved_178 rfl rfl ?_
  refine xm_E_s r_X11_moved_179 rfl rfl ?_
  refine xm_E_f q3 ?_
  refine xm_E_s r_X11_moved_182 rfl rfl ?_
  refine xm_E_s r_X11_moved_183 rfl rfl ?_
  refine xm_E_s r_X11_moved_184 rfl rfl ?_
  refine xm_E_s r_X11_moved_185 rfl rfl ?_
  refine xm_E_s r_X11_moved_186 rfl rfl ?_
  refine xm_E_cs [.int (l3 / (2 : Int32)), .int l4, .int l5, .int ((1 : Int32) - l6), .int (0 : Int32)] [] r_X11_moved_187 rfl rfl rfl (Nat.le_of_ble_eq_true rfl) rfl q4 ?_
  exact xm_E_iret r_X11_moved_188 rfl rfl
theorem p_X11_moved_55_19 {X : xm_X} {P : List xm_M} {d : Nat} {h : xm_H} {l0 : Nat} {l1 : Int32} {l2 : Int32} {l3 : Int32} {l4 : Int32} {l5 : Int32} {l6 : Int32} {l7 : Int32} (q0 : l2 = (5 : Int32)) (q1 : ¬ (l3 - l3 / (2 : Int32) * (2 : Int32) = (0 : Int32))) : xm_E X P d co_X11_moved 55 [some (.ref l0), some (.int l1), some (.int l2), some (.int l3), some (.int l4), some (.int l5), some (.int l6), some (.int l7)] [] h (some (.int (-1 : Int32))) h := by
  refine xm_E_s r_X11_moved_55 rfl rfl ?_
  refine xm_E_s r_X11_moved_56 rfl (xm_T_tab (5 : Int32) 164 rfl q0 (by decide) rfl) ?_
  refine xm_E_s r_X11_moved_164 rfl rfl ?_
  refine xm_E_s r_X11_moved_165 rfl rfl ?_
  refine xm_E_s r_X11_moved_166 rfl (xm_T_irem rfl (by decide)) ?_
  refine xm_E_s r_X11_moved_167 rfl rfl ?_
  refine xm_E_f q1 ?_
  refine xm_E_s r_X11_moved_168 rfl rfl ?_
  refine xm_E_s r_X11_moved_169 rfl rfl ?_
  exact xm_E_iret r_X11_moved_188 rfl rfl
theorem p_X11_moved_55_20 {X : xm_X} {P : List xm_M} {d : Nat} {h : xm_H} {l0 : Nat} {l1 : Int32} {l2 : Int32} {l3 : Int32} {l4 : Int32} {l5 : Int32} {l6 : Int32} {l7 : Int32} {h0 : xm_H} {r0 : Int32} {h1 : xm_H} {r1 : Int32} (q0 : l2 = (6 : Int32)) (q1 : xm_V X P d 230 [.int l5, .int (0 : Int32), .int (1 : Int32)] h (some (.int r0)) h0) (q2 : xm_V X P d 221 [.int l3, .int l4, .int r0, .int ((1 : Int32) - l6), .int (0 : Int32)] h0 (some (.int r1)) h1) : xm_E X P d co_X11_moved 55 [some (.ref l0), some (.int l1), some (.int l2), some (.int l3), some (.int l4), some (.int l5), some (.int l6), some (.int l7)] [] h (some (.int r1)) h1 := by
  refine xm_E_s r_X11_moved_55 rfl rfl ?_
  refine xm_E_s r_X11_moved_56 rfl (xm_T_tab (6 : Int32) 189 rfl q0 (by decide) rfl) ?_
  refine xm_E_s r_X11_moved_189 rfl rfl ?_
  refine xm_E_s r_X11_moved_190 rfl rfl ?_
  refine xm_E_s r_X11_moved_191 rfl rfl ?_
  refine xm_E_s r_X11_moved_192 rfl rfl ?_
  refine xm_E_s r_X11_moved_193 rfl rfl ?_
  refine xm_E_cs [.int l5, .int (0 : Int32), .int (1 : Int32)] [.int l4, .int l3] r_X11_moved_194 rfl rfl rfl (Nat.le_of_ble_eq_true rfl) rfl q1 ?_
  refine xm_E_s r_X11_moved_195 rfl rfl ?_
  refine xm_E_s r_X11_moved_196 rfl rfl ?_
  refine xm_E_s r_X11_moved_197 rfl rfl ?_
  refine xm_E_s r_X11_moved_198 rfl rfl ?_
  refine xm_E_cs [.int l3, .int l4, .int r0, .int ((1 : Int32) - l6), .int (0 : Int32)] [] r_X11_moved_199 rfl rfl rfl (Nat.le_of_ble_eq_true rfl) rfl q2 ?_
  exact xm_E_iret r_X11_moved_200 rfl rfl
theorem p_X11_moved_55_21 {X : xm_X} {P : List xm_M} {d : Nat} {h : xm_H} {l0 : Nat} {l1 : Int32} {l2 : Int32} {l3 : Int32} {l4 : Int32} {l5 : Int32} {l6 : Int32} {l7 : Int32} {h0 : xm_H} {r0 : Int32} {h1 : xm_H} {r1 : Int32} {h2 : xm_H} {r2 : Int32} (q0 : l2 = (7 : Int32)) (q1 : xm_V X P d 230 [.int l5, .int (0 : Int32), .int (1 : Int32)] h (some (.int r0)) h0) (q2 : xm_V X P d 230 [.int r0, .int (2 : Int32), .int (3 : Int32)] h0 (some (.int r1)) h1) (q3 : xm_V X P d 221 [.int l3, .int l4, .int r1, .int l6, .int (0 : Int32)] h1 (some (.int r2)) h2) : xm_E X P d co_X11_moved 55 [some (.ref l0), some (.int l1), some (.int l2), some (.int l3), some (.int l4), some (.int l5), some (.int l6), some (.int l7)] [] h (some (.int r2)) h2 := by
  refine xm_E_s r_X11_moved_55 rfl rfl ?_
  refine xm_E_s r_X11_moved_56 rfl (xm_T_tab (7 : Int32) 201 rfl q0 (by decide) rfl) ?_
  refine xm_E_s r_X11_moved_201 rfl rfl ?_
  refine xm_E_s r_X11_moved_202 rfl rfl ?_
  refine xm_E_s r_X11_moved_203 rfl rfl ?_
  refine xm_E_s r_X11_moved_204 rfl rfl ?_
  refine xm_E_s r_X11_moved_205 rfl rfl ?_
  refine xm_E_cs [.int l5, .int (0 : Int32), .int (1 : Int32)] [.int l4, .int l3] r_X11_moved_206 rfl rfl rfl (Nat.le_of_ble_eq_true rfl) rfl q1 ?_
  refine xm_E_s r_X11_moved_207 rfl rfl ?_
  refine xm_E_s r_X11_moved_208 rfl rfl ?_
  refine xm_E_cs [.int r0, .int (2 : Int32), .int (3 : Int32)] [.int l4, .int l3] r_X11_moved_209 rfl rfl rfl (Nat.le_of_ble_eq_true rfl) rfl q2 ?_
  refine xm_E_s r_X11_moved_210 rfl rfl ?_
  refine xm_E_s r_X11_moved_211 rfl rfl ?_
  refine xm_E_cs [.int l3, .int l4, .int r1, .int l6, .int (0 : Int32)] [] r_X11_moved_212 rfl rfl rfl (Nat.le_of_ble_eq_true rfl) rfl q3 ?_
  exact xm_E_iret r_X11_moved_213 rfl rfl
theorem p_X11_moved_55_22 {X : xm_X} {P : List xm_M} {d : Nat} {h : xm_H} {l0 : Nat} {l1 : Int32} {l2 : Int32} {l3 : Int32} {l4 : Int32} {l5 : Int32} {l6 : Int32} {l7 : Int32} {h0 : xm_H} {r0 : Int32} {h1 : xm_H} {r1 : Int32} (q0 : l2.toInt < 0 ∨ 7 < l2.toInt) (q1 : xm_V X P d 231 [.int l5] h (some (.int r0)) h0) (q2 : xm_V X P d 221 [.int l4, .int l3, .int r0, .int l6, .int (0 : Int32)] h0 (some (.int r1)) h1) : xm_E X P d co_X11_moved 55 [some (.ref l0), some (.int l1), some (.int l2), some (.int l3), some (.int l4), some (.int l5), some (.int l6), some (.int l7)] [] h (some (.int r1)) h1 := by
  refine xm_E_s r_X11_moved_55 rfl rfl ?_
  refine xm_E_s r_X11_moved_56 rfl (xm_T_tabd rfl q0) ?_
  refine xm_E_s r_X11_moved_214 rfl rfl ?_
  refine xm_E_s r_X11_moved_215 rfl rfl ?_
  refine xm_E_s r_X11_moved_216 rfl rfl ?_
  refine xm_E_cs [.int l5] [.int l3, .int l4] r_X11_moved_217 rfl rfl rfl (Nat.le_of_ble_eq_true rfl) rfl q1 ?_
  refine xm_E_s r_X11_moved_218 rfl rfl ?_
  refine xm_E_s r_X11_moved_219 rfl rfl ?_
  refine xm_E_cs [.int l4, .int l3, .int r0, .int l6, .int (0 : Int32)] [] r_X11_moved_220 rfl rfl rfl (Nat.le_of_ble_eq_true rfl) rfl q2 ?_
  exact xm_E_iret r_X11_moved_221 rfl rfl
theorem r_X11_longOf_0 : co_X11_longOf[0]? = some ((0, .iload_n 0, 0, 0, 0, 0, 0, 0, []) : xm_I) := rfl
theorem r_X11_longOf_1 : co_X11_longOf[1]? = some ((1, .iconst 5, 0, 0, 0, 0, 5, 0, []) : xm_I) := rfl
theorem r_X11_longOf_2 : co_X11_longOf[2]? = some ((2, .idiv, 0, 0, 0, 0, 0, 0, []) : xm_I) := rfl
theorem r_X11_longOf_3 : co_X11_longOf[3]? = some ((3, .iconst 2, 0, 0, 0, 0, 2, 0, []) : xm_I) := rfl
theorem r_X11_longOf_4 : co_X11_longOf[4]? = some ((4, .idiv, 0, 0, 0, 0, 0, 0, []) : xm_I) := rfl
theorem r_X11_longOf_5 : co_X11_longOf[5]? = some ((5, .iconst 5, 0, 0, 0, 0, 5, 0, []) : xm_I) := rfl
theorem r_X11_longOf_6 : co_X11_longOf[6]? = some ((6, .idiv, 0, 0, 0, 0, 0, 0, []) : xm_I) := rfl
theorem r_X11_longOf_7 : co_X11_longOf[7]? = some ((7, .bipush 49, 0, 0, 0, 0, 49, 0, []) : xm_I) := rfl
theorem r_X11_longOf_8 : co_X11_longOf[8]? = some ((9, .idiv, 0, 0, 0, 0, 0, 0, []) : xm_I) := rfl
theorem r_X11_longOf_9 : co_X11_longOf[9]? = some ((10, .ireturn, 0, 0, 0, 0, 0, 0, []) : xm_I) := rfl
theorem p_X11_longOf_0_0 {X : xm_X} {P : List xm_M} {d : Nat} {h : xm_H} {l0 : Int32}  : xm_E X P d co_X11_longOf 0 [some (.int l0)] [] h (some (.int ((((l0 / (5 : Int32)) / (2 : Int32)) / (5 : Int32)) / (49 : Int32)))) h := by
  refine xm_E_s r_X11_longOf_0 rfl rfl ?_
  refine xm_E_s r_X11_longOf_1 rfl rfl ?_
  refine xm_E_s r_X11_longOf_2 rfl (xm_T_idiv rfl (by decide)) ?_
  refine xm_E_s r_X11_longOf_3 rfl rfl ?_
  refine xm_E_s r_X11_longOf_4 rfl (xm_T_idiv rfl (by decide)) ?_
  refine xm_E_s r_X11_longOf_5 rfl rfl ?_
  refine xm_E_s r_X11_longOf_6 rfl (xm_T_idiv rfl (by decide)) ?_
  refine xm_E_s r_X11_longOf_7 rfl rfl ?_
  refine xm_E_s r_X11_longOf_8 rfl (xm_T_idiv rfl (by decide)) ?_
  exact xm_E_iret r_X11_longOf_9 rfl rfl
theorem r_X11_wideOf_0 : co_X11_wideOf[0]? = some ((0, .iload_n 0, 0, 0, 0, 0, 0, 0, []) : xm_I) := rfl
theorem r_X11_wideOf_1 : co_X11_wideOf[1]? = some ((1, .iconst 5, 0, 0, 0, 0, 5, 0, []) : xm_I) := rfl
theorem r_X11_wideOf_2 : co_X11_wideOf[2]? = some ((2, .idiv, 0, 0, 0, 0, 0, 0, []) : xm_I) := rfl
theorem r_X11_wideOf_3 : co_X11_wideOf[3]? = some ((3, .iconst 2, 0, 0, 0, 0, 2, 0, []) : xm_I) := rfl
theorem r_X11_wideOf_4 : co_X11_wideOf[4]? = some ((4, .idiv, 0, 0, 0, 0, 0, 0, []) : xm_I) := rfl
theorem r_X11_wideOf_5 : co_X11_wideOf[5]? = some ((5, .iconst 5, 0, 0, 0, 0, 5, 0, []) : xm_I) := rfl
theorem r_X11_wideOf_6 : co_X11_wideOf[6]? = some ((6, .idiv, 0, 0, 0, 0, 0, 0, []) : xm_I) := rfl
theorem r_X11_wideOf_7 : co_X11_wideOf[7]? = some ((7, .bipush 49, 0, 0, 0, 0, 49, 0, []) : xm_I) := rfl
theorem r_X11_wideOf_8 : co_X11_wideOf[8]? = some ((9, .irem, 0, 0, 0, 0, 0, 0, []) : xm_I) := rfl
theorem r_X11_wideOf_9 : co_X11_wideOf[9]? = some ((10, .ireturn, 0, 0, 0, 0, 0, 0, []) : xm_I) := rfl
theorem p_X11_wideOf_0_0 {X : xm_X} {P : List xm_M} {d : Nat} {h : xm_H} {l0 : Int32}  : xm_E X P d co_X11_wideOf 0 [some (.int l0)] [] h (some (.int ((((l0 / (5 : Int32)) / (2 : Int32)) / (5 : Int32)) - (((l0 / (5 : Int32)) / (2 : Int32)) / (5 : Int32)) / (49 : Int32) * (49 : Int32)))) h := by
  refine xm_E_s r_X11_wideOf_0 rfl rfl ?_
  refine xm_E_s r_X11_wideOf_1 rfl rfl ?_
  refine xm_E_s r_X11_wideOf_2 rfl (xm_T_idiv rfl (by decide)) ?_
  refine xm_E_s r_X11_wideOf_3 rfl rfl ?_
  refine xm_E_s r_X11_wideOf_4 rfl (xm_T_idiv rfl (by decide)) ?_
  refine xm_E_s r_X11_wideOf_5 rfl rfl ?_
  refine xm_E_s r_X11_wideOf_6 rfl (xm_T_idiv rfl (by decide)) ?_
  refine xm_E_s r_X11_wideOf_7 rfl rfl ?_
  refine xm_E_s r_X11_wideOf_8 rfl (xm_T_irem rfl (by decide)) ?_
  exact xm_E_iret r_X11_wideOf_9 rfl rfl
theorem r_X11_hemOf_0 : co_X11_hemOf[0]? = some ((0, .iload_n 0, 0, 0, 0, 0, 0, 0, []) : xm_I) := rfl
theorem r_X11_hemOf_1 : co_X11_hemOf[1]? = some ((1, .iconst 5, 0, 0, 0, 0, 5, 0, []) : xm_I) := rfl
theorem r_X11_hemOf_2 : co_X11_hemOf[2]? = some ((2, .idiv, 0, 0, 0, 0, 0, 0, []) : xm_I) := rfl
theorem r_X11_hemOf_3 : co_X11_hemOf[3]? = some ((3, .iconst 2, 0, 0, 0, 0, 2, 0, []) : xm_I) := rfl
theorem r_X11_hemOf_4 : co_X11_hemOf[4]? = some ((4, .idiv, 0, 0, 0, 0, 0, 0, []) : xm_I) := rfl
theorem r_X11_hemOf_5 : co_X11_hemOf[5]? = some ((5, .iconst 5, 0, 0, 0, 0, 5, 0, []) : xm_I) := rfl
theorem r_X11_hemOf_6 : co_X11_hemOf[6]? = some ((6, .irem, 0, 0, 0, 0, 0, 0, []) : xm_I) := rfl
theorem r_X11_hemOf_7 : co_X11_hemOf[7]? = some ((7, .ireturn, 0, 0, 0, 0, 0, 0, []) : xm_I) := rfl
theorem p_X11_hemOf_0_0 {X : xm_X} {P : List xm_M} {d : Nat} {h : xm_H} {l0 : Int32}  : xm_E X P d co_X11_hemOf 0 [some (.int l0)] [] h (some (.int (((l0 / (5 : Int32)) / (2 : Int32)) - ((l0 / (5 : Int32)) / (2 : Int32)) / (5 : Int32) * (5 : Int32)))) h := by
  refine xm_E_s r_X11_hemOf_0 rfl rfl ?_
  refine xm_E_s r_X11_hemOf_1 rfl rfl ?_
  refine xm_E_s r_X11_hemOf_2 rfl (xm_T_idiv rfl (by decide)) ?_
  refine xm_E_s r_X11_hemOf_3 rfl rfl ?_
  refine xm_E_s r_X11_hemOf_4 rfl (xm_T_idiv rfl (by decide)) ?_
  refine xm_E_s r_X11_hemOf_5 rfl rfl ?_
  refine xm_E_s r_X11_hemOf_6 rfl (xm_T_irem rfl (by decide)) ?_
  exact xm_E_iret r_X11_hemOf_7 rfl rfl
theorem r_X11_faceOf_0 : co_X11_faceOf[0]? = some ((0, .iload_n 0, 0, 0, 0, 0, 0, 0, []) : xm_I) := rfl
theorem r_X11_faceOf_1 : co_X11_faceOf[1]? = some ((1, .iconst 5, 0, 0, 0, 0, 5, 0, []) : xm_I) := rfl
theorem r_X11_faceOf_2 : co_X11_faceOf[2]? = some ((2, .idiv, 0, 0, 0, 0, 0, 0, []) : xm_I) := rfl
theorem r_X11_faceOf_3 : co_X11_faceOf[3]? = some ((3, .iconst 2, 0, 0, 0, 0, 2, 0, []) : xm_I) := rfl
theorem r_X11_faceOf_4 : co_X11_faceOf[4]? = some ((4, .irem, 0, 0, 0, 0, 0, 0, []) : xm_I) := rfl
theorem r_X11_faceOf_5 : co_X11_faceOf[5]? = some ((5, .ireturn, 0, 0, 0, 0, 0, 0, []) : xm_I) := rfl
theorem p_X11_faceOf_0_0 {X : xm_X} {P : List xm_M} {d : Nat} {h : xm_H} {l0 : Int32}  : xm_E X P d co_X11_faceOf 0 [some (.int l0)] [] h (some (.int ((l0 / (5 : Int32)) - (l0 / (5 : Int32)) / (2 : Int32) * (2 : Int32)))) h := by
  refine xm_E_s r_X11_faceOf_0 rfl rfl ?_
  refine xm_E_s r_X11_faceOf_1 rfl rfl ?_
  refine xm_E_s r_X11_faceOf_2 rfl (xm_T_idiv rfl (by decide)) ?_
  refine xm_E_s r_X11_faceOf_3 rfl rfl ?_
  refine xm_E_s r_X11_faceOf_4 rfl (xm_T_irem rfl (by decide)) ?_
  exact xm_E_iret r_X11_faceOf_5 rfl rfl
theorem r_X11_twistOf_0 : co_X11_twistOf[0]? = some ((0, .iload_n 0, 0, 0, 0, 0, 0, 0, []) : xm_I) := rfl
theorem r_X11_twistOf_1 : co_X11_twistOf[1]? = some ((1, .iconst 5, 0, 0, 0, 0, 5, 0, []) : xm_I) := rfl
theorem r_X11_twistOf_2 : co_X11_twistOf[2]? = some ((2, .irem, 0, 0, 0, 0, 0, 0, []) : xm_I) := rfl
theorem r_X11_twistOf_3 : co_X11_twistOf[3]? = some ((3, .iconst 2, 0, 0, 0, 0, 2, 0, []) : xm_I) := rfl
theorem r_X11_twistOf_4 : co_X11_twistOf[4]? = some ((4, .isub, 0, 0, 0, 0, 0, 0, []) : xm_I) := rfl
theorem r_X11_twistOf_5 : co_X11_twistOf[5]? = some ((5, .ireturn, 0, 0, 0, 0, 0, 0, []) : xm_I) := rfl
theorem p_X11_twistOf_0_0 {X : xm_X} {P : List xm_M} {d : Nat} {h : xm_H} {l0 : Int32}  : xm_E X P d co_X11_twistOf 0 [some (.int l0)] [] h (some (.int ((l0 - l0 / (5 : Int32) * (5 : Int32)) - (2 : Int32)))) h := by
  refine xm_E_s r_X11_twistOf_0 rfl rfl ?_
  refine xm_E_s r_X11_twistOf_1 rfl rfl ?_
  refine xm_E_s r_X11_twistOf_2 rfl (xm_T_irem rfl (by decide)) ?_
  refine xm_E_s r_X11_twistOf_3 rfl rfl ?_
  refine xm_E_s r_X11_twistOf_4 rfl rfl ?_
  exact xm_E_iret r_X11_twistOf_5 rfl rfl
theorem r_X11_fitsIn_0 : co_X11_fitsIn[0]? = some ((0, .aload_n 0, 0, 0, 0, 0, 0, 0, []) : xm_I) := rfl
theorem r_X11_fitsIn_1 : co_X11_fitsIn[1]? = some ((1, .getfield 261, 1396, 10, 16, 3, 0, 0, []) : xm_I) := rfl
theorem r_X11_fitsIn_2 : co_X11_fitsIn[2]? = some ((4, .ifCond .eq 27, 0, 0, 17, 0, 0, 0, []) : xm_I) := rfl
theorem r_X11_fitsIn_3 : co_X11_fitsIn[3]? = some ((7, .iload_n 2, 0, 0, 0, 0, 0, 0, []) : xm_I) := rfl
theorem r_X11_fitsIn_4 : co_X11_fitsIn[4]? = some ((8, .iconst 2, 0, 0, 0, 0, 2, 0, []) : xm_I) := rfl
theorem r_X11_fitsIn_5 : co_X11_fitsIn[5]? = some ((9, .if_icmp .gt 16, 0, 0, 13, 0, 0, 0, []) : xm_I) := rfl
theorem r_X11_fitsIn_6 : co_X11_fitsIn[6]? = some ((12, .iload_n 1, 0, 0, 0, 0, 0, 0, []) : xm_I) := rfl
theorem r_X11_fitsIn_7 : co_X11_fitsIn[7]? = some ((13, .invokestatic 265, 1674, 224, 1, 0, 0, 0, []) : xm_I) := rfl
theorem r_X11_fitsIn_8 : co_X11_fitsIn[8]? = some ((16, .aload_n 0, 0, 0, 0, 0, 0, 0, []) : xm_I) := rfl
theorem r_X11_fitsIn_9 : co_X11_fitsIn[9]? = some ((17, .getfield 9, 1381, 10, 1, 2, 0, 0, []) : xm_I) := rfl
theorem r_X11_fitsIn_10 : co_X11_fitsIn[10]? = some ((20, .iconst 4, 0, 0, 0, 0, 4, 0, []) : xm_I) := rfl
theorem r_X11_fitsIn_11 : co_X11_fitsIn[11]? = some ((21, .iaload, 0, 0, 0, 0, 0, 0, []) : xm_I) := rfl
theorem r_X11_fitsIn_12 : co_X11_fitsIn[12]? = some ((22, .if_icmp .gt 7, 0, 0, 15, 0, 0, 0, []) : xm_I) := rfl
theorem r_X11_fitsIn_13 : co_X11_fitsIn[13]? = some ((25, .iconst 1, 0, 0, 0, 0, 1, 0, []) : xm_I) := rfl
theorem r_X11_fitsIn_14 : co_X11_fitsIn[14]? = some ((26, .goto 4, 0, 0, 16, 0, 0, 0, []) : xm_I) := rfl
theorem r_X11_fitsIn_15 : co_X11_fitsIn[15]? = some ((29, .iconst 0, 0, 0, 0, 0, 0, 0, []) : xm_I) := rfl
theorem r_X11_fitsIn_16 : co_X11_fitsIn[16]? = some ((30, .ireturn, 0, 0, 0, 3, 0, 0, []) : xm_I) := rfl
theorem r_X11_fitsIn_17 : co_X11_fitsIn[17]? = some ((31, .iload_n 2, 0, 0, 0, 0, 0, 0, []) : xm_I) := rfl
theorem r_X11_fitsIn_18 : co_X11_fitsIn[18]? = some ((32, .bipush 8, 0, 0, 0, 0, 8, 0, []) : xm_I) := rfl
theorem r_X11_fitsIn_19 : co_X11_fitsIn[19]? = some ((34, .if_icmp .ne 22, 0, 0, 29, 0, 0, 0, []) : xm_I) := rfl
theorem r_X11_fitsIn_20 : co_X11_fitsIn[20]? = some ((37, .iload_n 1, 0, 0, 0, 0, 0, 0, []) : xm_I) := rfl
theorem r_X11_fitsIn_21 : co_X11_fitsIn[21]? = some ((38, .invokestatic 268, 1677, 225, 1, 0, 0, 0, []) : xm_I) := rfl
theorem r_X11_fitsIn_22 : co_X11_fitsIn[22]? = some ((41, .aload_n 0, 0, 0, 0, 0, 0, 0, []) : xm_I) := rfl
theorem r_X11_fitsIn_23 : co_X11_fitsIn[23]? = some ((42, .getfield 271, 1395, 10, 15, 0, 0, 0, []) : xm_I) := rfl
theorem r_X11_fitsIn_24 : co_X11_fitsIn[24]? = some ((45, .if_icmp .gt 7, 0, 0, 27, 0, 0, 0, []) : xm_I) := rfl
theorem r_X11_fitsIn_25 : co_X11_fitsIn[25]? = some ((48, .iconst 1, 0, 0, 0, 0, 1, 0, []) : xm_I) := rfl
theorem r_X11_fitsIn_26 : co_X11_fitsIn[26]? = some ((49, .goto 23, 0, 0, 37, 0, 0, 0, []) : xm_I) := rfl
theorem r_X11_fitsIn_27 : co_X11_fitsIn[27]? = some ((52, .iconst 0, 0, 0, 0, 0, 0, 0, []) : xm_I) := rfl
theorem r_X11_fitsIn_28 : co_X11_fitsIn[28]? = some ((53, .goto 19, 0, 0, 37, 0, 0, 0, []) : xm_I) := rfl
theorem r_X11_fitsIn_29 : co_X11_fitsIn[29]? = some ((56, .iload_n 1, 0, 0, 0, 0, 0, 0, []) : xm_I) := rfl
theorem r_X11_fitsIn_30 : co_X11_fitsIn[30]? = some ((57, .invokestatic 265, 1674, 224, 1, 0, 0, 0, []) : xm_I) := rfl
theorem r_X11_fitsIn_31 : co_X11_fitsIn[31]? = some ((60, .aload_n 0, 0, 0, 0, 0, 0, 0, []) : xm_I) := rfl
theorem r_X11_fitsIn_32 : co_X11_fitsIn[32]? = some ((61, .getfield 271, 1395, 10, 15, 0, 0, 0, []) : xm_I) := rfl
theorem r_X11_fitsIn_33 : co_X11_fitsIn[33]? = some ((64, .if_icmp .gt 7, 0, 0, 36, 0, 0, 0, []) : xm_I) := rfl
theorem r_X11_fitsIn_34 : co_X11_fitsIn[34]? = some ((67, .iconst 1, 0, 0, 0, 0, 1, 0, []) : xm_I) := rfl
theorem r_X11_fitsIn_35 : co_X11_fitsIn[35]? = some ((68, .goto 4, 0, 0, 37, 0, 0, 0, []) : xm_I) := rfl
theorem r_X11_fitsIn_36 : co_X11_fitsIn[36]? = some ((71, .iconst 0, 0, 0, 0, 0, 0, 0, []) : xm_I) := rfl
theorem r_X11_fitsIn_37 : co_X11_fitsIn[37]? = some ((72, .ireturn, 0, 0, 0, 3, 0, 0, []) : xm_I) := rfl
theorem p_X11_fitsIn_0_0 {X : xm_X} {P : List xm_M} {d : Nat} {h : xm_H} {l0 : Nat} {l1 : Int32} {l2 : Int32} {h0 : xm_H} {r0 : Int32} (q0 : X.1[l0]? = some (.inr 10)) (q1 : h.1 l0 16 = (0 : Int32)) (q2 : l2 = (8 : Int32)) (q3 : xm_V X P d 225 [.int l1] h (some (.int r0)) h0) (q4 : h0.1 l0 15 < r0) : xm_E X P d co_X11_fitsIn 0 [some (.ref l0), some (.int l1), some (.int l2)] [] h (some (.int (0 : Int32))) h0 := by
  refine xm_E_s r_X11_fitsIn_0 rfl rfl ?_
  refine xm_E_s r_X11_fitsIn_1 rfl (xm_T_gi rfl q0 rfl (Or.inr rfl)) ?_
  refine xm_E_s r_X11_fitsIn_2 rfl rfl ?_
  refine xm_E_t q1 ?_
  refine xm_E_s r_X11_fitsIn_17 rfl rfl ?_
  refine xm_E_s r_X11_fitsIn_18 rfl rfl ?_
  refine xm_E_s r_X11_fitsIn_19 rfl rfl ?_
  refine xm_E_t q2 ?_
  refine xm_E_s r_X11_fitsIn_20 rfl rfl ?_
  refine xm_E_cs [.int l1] [] r_X11_fitsIn_21 rfl rfl rfl (Nat.le_of_ble_eq_true rfl) rfl q3 ?_
  refine xm_E_s r_X11_fitsIn_22 rfl rfl ?_
  refine xm_E_s r_X11_fitsIn_23 rfl (xm_T_gi rfl q0 rfl (Or.inl rfl)) ?_
  refine xm_E_s r_X11_fitsIn_24 rfl rfl ?_
  refine xm_E_t q4 ?_
  refine xm_E_s r_X11_fitsIn_27 rfl rfl ?_
  refine xm_E_s r_X11_fitsIn_28 rfl rfl ?_
  exact xm_E_iret r_X11_fitsIn_37 rfl rfl
theorem p_X11_fitsIn_0_1 {X : xm_X} {P : List xm_M} {d : Nat} {h : xm_H} {l0 : Nat} {l1 : Int32} {l2 : Int32} {h0 : xm_H} {r0 : Int32} (q0 : X.1[l0]? = some (.inr 10)) (q1 : h.1 l0 16 = (0 : Int32)) (q2 : l2 = (8 : Int32)) (q3 : xm_V X P d 225 [.int l1] h (some (.int r0)) h0) (q4 : ¬ (h0.1 l0 15 < r0)) : xm_E X P d co_X11_fitsIn 0 [some (.ref l0), some (.int l1), some (.int l2)] [] h (some (.int (1 : Int32))) h0 := by
  refine xm_E_s r_X11_fitsIn_0 rfl rfl ?_
  refine xm_E_s r_X11_fitsIn_1 rfl (xm_T_gi rfl q0 rfl (Or.inr rfl)) ?_
  refine xm_E_s r_X11_fitsIn_2 rfl rfl ?_
  refine xm_E_t q1 ?_
  refine xm_E_s r_X11_fitsIn_17 rfl rfl ?_
  refine xm_E_s r_X11_fitsIn_18 rfl rfl ?_
  refine xm_E_s r_X11_fitsIn_19 rfl rfl ?_
  refine xm_E_t q2 ?_
  refine xm_E_s r_X11_fitsIn_20 rfl rfl ?_
  refine xm_E_cs [.int l1] [] r_X11_fitsIn_21 rfl rfl rfl (Nat.le_of_ble_eq_true rfl) rfl q3 ?_
  refine xm_E_s r_X11_fitsIn_22 rfl rfl ?_
  refine xm_E_s r_X11_fitsIn_23 rfl (xm_T_gi rfl q0 rfl (Or.inl rfl)) ?_
  refine xm_E_s r_X11_fitsIn_24 rfl rfl ?_
  refine xm_E_f q4 ?_
  refine xm_E_s r_X11_fitsIn_25 rfl rfl ?_
  refine xm_E_s r_X11_fitsIn_26 rfl rfl ?_
  exact xm_E_iret r_X11_fitsIn_37 rfl rfl
theorem p_X11_fitsIn_0_2 {X : xm_X} {P : List xm_M} {d : Nat} {h : xm_H} {l0 : Nat} {l1 : Int32} {l2 : Int32} {h0 : xm_H} {r0 : Int32} (q0 : X.1[l0]? = some (.inr 10)) (q1 : h.1 l0 16 = (0 : Int32)) (q2 : ¬ (l2 = (8 : Int32))) (q3 : xm_V X P d 224 [.int l1] h (some (.int r0)) h0) (q4 : h0.1 l0 15 < r0) : xm_E X P d co_X11_fitsIn 0 [some (.ref l0), some (.int l1), some (.int l2)] [] h (some (.int (0 : Int32))) h0 := by
  refine xm_E_s r_X11_fitsIn_0 rfl rfl ?_
  refine xm_E_s r_X11_fitsIn_1 rfl (xm_T_gi rfl q0 rfl (Or.inr rfl)) ?_
  refine xm_E_s r_X11_fitsIn_2 rfl rfl ?_
  refine xm_E_t q1 ?_
  refine xm_E_s r_X11_fitsIn_17 rfl rfl ?_
  refine xm_E_s r_X11_fitsIn_18 rfl rfl ?_
  refine xm_E_s r_X11_fitsIn_19 rfl rfl ?_
  refine xm_E_f q2 ?_
  refine xm_E_s r_X11_fitsIn_29 rfl rfl ?_
  refine xm_E_cs [.int l1] [] r_X11_fitsIn_30 rfl rfl rfl (Nat.le_of_ble_eq_true rfl) rfl q3 ?_
  refine xm_E_s r_X11_fitsIn_31 rfl rfl ?_
  refine xm_E_s r_X11_fitsIn_32 rfl (xm_T_gi rfl q0 rfl (Or.inl rfl)) ?_
  refine xm_E_s r_X11_fitsIn_33 rfl rfl ?_
  refine xm_E_t q4 ?_
  refine xm_E_s r_X11_fitsIn_36 rfl rfl ?_
  exact xm_E_iret r_X11_fitsIn_37 rfl rfl
theorem p_X11_fitsIn_0_3 {X : xm_X} {P : List xm_M} {d : Nat} {h : xm_H} {l0 : Nat} {l1 : Int32} {l2 : Int32} {h0 : xm_H} {r0 : Int32} (q0 : X.1[l0]? = some (.inr 10)) (q1 : h.1 l0 16 = (0 : Int32)) (q2 : ¬ (l2 = (8 : Int32))) (q3 : xm_V X P d 224 [.int l1] h (some (.int r0)) h0) (q4 : ¬ (h0.1 l0 15 < r0)) : xm_E X P d co_X11_fitsIn 0 [some (.ref l0), some (.int l1), some (.int l2)] [] h (some (.int (1 : Int32))) h0 := by
  refine xm_E_s r_X11_fitsIn_0 rfl rfl ?_
  refine xm_E_s r_X11_fitsIn_1 rfl (xm_T_gi rfl q0 rfl (Or.inr rfl)) ?_
  refine xm_E_s r_X11_fitsIn_2 rfl rfl ?_
  refine xm_E_t q1 ?_
  refine xm_E_s r_X11_fitsIn_17 rfl rfl ?_
  refine xm_E_s r_X11_fitsIn_18 rfl rfl ?_
  refine xm_E_s r_X11_fitsIn_19 rfl rfl ?_
  refine xm_E_f q2 ?_
  refine xm_E_s r_X11_fitsIn_29 rfl rfl ?_
  refine xm_E_cs [.int l1] [] r_X11_fitsIn_30 rfl rfl rfl (Nat.le_of_ble_eq_true rfl) rfl q3 ?_
  refine xm_E_s r_X11_fitsIn_31 rfl rfl ?_
  refine xm_E_s r_X11_fitsIn_32 rfl (xm_T_gi rfl q0 rfl (Or.inl rfl)) ?_
  refine xm_E_s r_X11_fitsIn_33 rfl rfl ?_
  refine xm_E_f q4 ?_
  refine xm_E_s r_X11_fitsIn_34 rfl rfl ?_
  refine xm_E_s r_X11_fitsIn_35 rfl rfl ?_
  exact xm_E_iret r_X11_fitsIn_37 rfl rfl
theorem p_X11_fitsIn_0_4 {X : xm_X} {P : List xm_M} {d : Nat} {h : xm_H} {l0 : Nat} {l1 : Int32} {l2 : Int32} (q0 : X.1[l0]? = some (.inr 10)) (q1 : ¬ (h.1 l0 16 = (0 : Int32))) (q2 : (2 : Int32) < l2) : xm_E X P d co_X11_fitsIn 0 [some (.ref l0), some (.int l1), some (.int l2)] [] h (some (.int (1 : Int32))) h := by
  refine xm_E_s r_X11_fitsIn_0 rfl rfl ?_
  refine xm_E_s r_X11_fitsIn_1 rfl (xm_T_gi rfl q0 rfl (Or.inr rfl)) ?_
  refine xm_E_s r_X11_fitsIn_2 rfl rfl ?_
  refine xm_E_f q1 ?_
  refine xm_E_s r_X11_fitsIn_3 rfl rfl ?_
  refine xm_E_s r_X11_fitsIn_4 rfl rfl ?_
  refine xm_E_s r_X11_fitsIn_5 rfl rfl ?_
  refine xm_E_t q2 ?_
  refine xm_E_s r_X11_fitsIn_13 rfl rfl ?_
  refine xm_E_s r_X11_fitsIn_14 rfl rfl ?_
  exact xm_E_iret r_X11_fitsIn_16 rfl rfl
theorem p_X11_fitsIn_0_5 {X : xm_X} {P : List xm_M} {d : Nat} {h : xm_H} {l0 : Nat} {l1 : Int32} {l2 : Int32} {h0 : xm_H} {r0 : Int32} {v1 : Nat} {n2 : Nat} (q0 : X.1[l0]? = some (.inr 10)) (q1 : ¬ (h.1 l0 16 = (0 : Int32))) (q2 : ¬ ((2 : Int32) < l2)) (q3 : xm_V X P d 224 [.int l1] h (some (.int r0)) h0) (q4 : h0.2.2 l0 1 = some v1) (q5 : X.1[v1]? = some (.inl (0, n2))) (q6 : 4 < n2) (q7 : h0.1 v1 4 < r0) : xm_E X P d co_X11_fitsIn 0 [some (.ref l0), some (.int l1), some (.int l2)] [] h (some (.int (0 : Int32))) h0 := by
  refine xm_E_s r_X11_fitsIn_0 rfl rfl ?_
  refine xm_E_s r_X11_fitsIn_1 rfl (xm_T_gi rfl q0 rfl (Or.inr rfl)) ?_
  refine xm_E_s r_X11_fitsIn_2 rfl rfl ?_
  refine xm_E_f q1 ?_
  refine xm_E_s r_X11_fitsIn_3 rfl rfl ?_
  refine xm_E_s r_X11_fitsIn_4 rfl rfl ?_
  refine xm_E_s r_X11_fitsIn_5 rfl rfl ?_
  refine xm_E_f q2 ?_
  refine xm_E_s r_X11_fitsIn_6 rfl rfl ?_
  refine xm_E_cs [.int l1] [] r_X11_fitsIn_7 rfl rfl rfl (Nat.le_of_ble_eq_true rfl) rfl q3 ?_
  refine xm_E_s r_X11_fitsIn_8 rfl rfl ?_
  refine xm_E_s r_X11_fitsIn_9 rfl (xm_T_gr rfl q0 rfl rfl q4) ?_
  refine xm_E_s r_X11_fitsIn_10 rfl rfl ?_
  refine xm_E_s r_X11_fitsIn_11 rfl (xm_T_iald rfl q5 (by decide) (fun e => e.elim (fun e => absurd e (by decide)) (fun e => Nat.not_le.mpr q6 e))) ?_
  refine xm_E_s r_X11_fitsIn_12 rfl rfl ?_
  refine xm_E_t q7 ?_
  refine xm_E_s r_X11_fitsIn_15 rfl rfl ?_
  exact xm_E_iret r_X11_fitsIn_16 rfl rfl
theorem p_X11_fitsIn_0_6 {X : xm_X} {P : List xm_M} {d : Nat} {h : xm_H} {l0 : Nat} {l1 : Int32} {l2 : Int32} {h0 : xm_H} {r0 : Int32} {v1 : Nat} {n2 : Nat} (q0 : X.1[l0]? = some (.inr 10)) (q1 : ¬ (h.1 l0 16 = (0 : Int32))) (q2 : ¬ ((2 : Int32) < l2)) (q3 : xm_V X P d 224 [.int l1] h (some (.int r0)) h0) (q4 : h0.2.2 l0 1 = some v1) (q5 : X.1[v1]? = some (.inl (0, n2))) (q6 : 4 < n2) (q7 : ¬ (h0.1 v1 4 < r0)) : xm_E X P d co_X11_fitsIn 0 [some (.ref l0), some (.int l1), some (.int l2)] [] h (some (.int (1 : Int32))) h0 := by
  refine xm_E_s r_X11_fitsIn_0 rfl rfl ?_
  refine xm_E_s r_X11_fitsIn_1 rfl (xm_T_gi rfl q0 rfl (Or.inr rfl)) ?_
  refine xm_E_s r_X11_fitsIn_2 rfl rfl ?_
  refine xm_E_f q1 ?_
  refine xm_E_s r_X11_fitsIn_3 rfl rfl ?_
  refine xm_E_s r_X11_fitsIn_4 rfl rfl ?_
  refine xm_E_s r_X11_fitsIn_5 rfl rfl ?_
  refine xm_E_f q2 ?_
  refine xm_E_s r_X11_fitsIn_6 rfl rfl ?_
  refine xm_E_cs [.int l1] [] r_X11_fitsIn_7 rfl rfl rfl (Nat.le_of_ble_eq_true rfl) rfl q3 ?_
  refine xm_E_s r_X11_fitsIn_8 rfl rfl ?_
  refine xm_E_s r_X11_fitsIn_9 rfl (xm_T_gr rfl q0 rfl rfl q4) ?_
  refine xm_E_s r_X11_fitsIn_10 rfl rfl ?_
  refine xm_E_s r_X11_fitsIn_11 rfl (xm_T_iald rfl q5 (by decide) (fun e => e.elim (fun e => absurd e (by decide)) (fun e => Nat.not_le.mpr q6 e))) ?_
  refine xm_E_s r_X11_fitsIn_12 rfl rfl ?_
  refine xm_E_f q7 ?_
  refine xm_E_s r_X11_fitsIn_13 rfl rfl ?_
  refine xm_E_s r_X11_fitsIn_14 rfl rfl ?_
  exact xm_E_iret r_X11_fitsIn_16 rfl rfl
theorem r_X11_trade_0 : co_X11_trade[0]? = some ((0, .iload_n 0, 0, 0, 0, 0, 0, 0, []) : xm_I) := rfl
theorem r_X11_trade_1 : co_X11_trade[1]? = some ((1, .iload_n 1, 0, 0, 0, 0, 0, 0, []) : xm_I) := rfl
theorem r_X11_trade_2 : co_X11_trade[2]? = some ((2, .if_icmp .ne 7, 0, 0, 5, 0, 0, 0, []) : xm_I) := rfl
theorem r_X11_trade_3 : co_X11_trade[3]? = some ((5, .iload_n 2, 0, 0, 0, 0, 0, 0, []) : xm_I) := rfl
theorem r_X11_trade_4 : co_X11_trade[4]? = some ((6, .goto 13, 0, 0, 11, 0, 0, 0, []) : xm_I) := rfl
theorem r_X11_trade_5 : co_X11_trade[5]? = some ((9, .iload_n 0, 0, 0, 0, 0, 0, 0, []) : xm_I) := rfl
theorem r_X11_trade_6 : co_X11_trade[6]? = some ((10, .iload_n 2, 0, 0, 0, 0, 0, 0, []) : xm_I) := rfl
theorem r_X11_trade_7 : co_X11_trade[7]? = some ((11, .if_icmp .ne 7, 0, 0, 10, 0, 0, 0, []) : xm_I) := rfl
theorem r_X11_trade_8 : co_X11_trade[8]? = some ((14, .iload_n 1, 0, 0, 0, 0, 0, 0, []) : xm_I) := rfl
theorem r_X11_trade_9 : co_X11_trade[9]? = some ((15, .goto 4, 0, 0, 11, 0, 0, 0, []) : xm_I) := rfl
theorem r_X11_trade_10 : co_X11_trade[10]? = some ((18, .iload_n 0, 0, 0, 0, 0, 0, 0, []) : xm_I) := rfl
theorem r_X11_trade_11 : co_X11_trade[11]? = some ((19, .ireturn, 0, 0, 0, 0, 0, 0, []) : xm_I) := rfl
theorem p_X11_trade_0_0 {X : xm_X} {P : List xm_M} {d : Nat} {h : xm_H} {l0 : Int32} {l1 : Int32} {l2 : Int32} (q0 : l0 = l1) : xm_E X P d co_X11_trade 0 [some (.int l0), some (.int l1), some (.int l2)] [] h (some (.int l2)) h := by
  refine xm_E_s r_X11_trade_0 rfl rfl ?_
  refine xm_E_s r_X11_trade_1 rfl rfl ?_
  refine xm_E_s r_X11_trade_2 rfl rfl ?_
  refine xm_E_t q0 ?_
  refine xm_E_s r_X11_trade_3 rfl rfl ?_
  refine xm_E_s r_X11_trade_4 rfl rfl ?_
  exact xm_E_iret r_X11_trade_11 rfl rfl
theorem p_X11_trade_0_1 {X : xm_X} {P : List xm_M} {d : Nat} {h : xm_H} {l0 : Int32} {l1 : Int32} {l2 : Int32} (q0 : ¬ (l0 = l1)) (q1 : l0 = l2) : xm_E X P d co_X11_trade 0 [some (.int l0), some (.int l1), some (.int l2)] [] h (some (.int l1)) h := by
  refine xm_E_s r_X11_trade_0 rfl rfl ?_
  refine xm_E_s r_X11_trade_1 rfl rfl ?_
  refine xm_E_s r_X11_trade_2 rfl rfl ?_
  refine xm_E_f q0 ?_
  refine xm_E_s r_X11_trade_5 rfl rfl ?_
  refine xm_E_s r_X11_trade_6 rfl rfl ?_
  refine xm_E_s r_X11_trade_7 rfl rfl ?_
  refine xm_E_t q1 ?_
  refine xm_E_s r_X11_trade_8 rfl rfl ?_
  refine xm_E_s r_X11_trade_9 rfl rfl ?_
  exact xm_E_iret r_X11_trade_11 rfl rfl
theorem p_X11_trade_0_2 {X : xm_X} {P : List xm_M} {d : Nat} {h : xm_H} {l0 : Int32} {l1 : Int32} {l2 : Int32} (q0 : ¬ (l0 = l1)) (q1 : ¬ (l0 = l2)) : xm_E X P d co_X11_trade 0 [some (.int l0), some (.int l1), some (.int l2)] [] h (some (.int l0)) h := by
  refine xm_E_s r_X11_trade_0 rfl rfl ?_
  refine xm_E_s r_X11_trade_1 rfl rfl ?_
  refine xm_E_s r_X11_trade_2 rfl rfl ?_
  refine xm_E_f q0 ?_
  refine xm_E_s r_X11_trade_5 rfl rfl ?_
  refine xm_E_s r_X11_trade_6 rfl rfl ?_
  refine xm_E_s r_X11_trade_7 rfl rfl ?_
  refine xm_E_f q1 ?_
  refine xm_E_s r_X11_trade_10 rfl rfl ?_
  exact xm_E_iret r_X11_trade_11 rfl rfl
theorem r_X11_round_0 : co_X11_round[0]? = some ((0, .iload_n 0, 0, 0, 0, 0, 0, 0, []) : xm_I) := rfl
theorem r_X11_round_1 : co_X11_round[1]? = some ((1, .ifCond .ne 7, 0, 0, 4, 0, 0, 0, []) : xm_I) := rfl
theorem r_X11_round_2 : co_X11_round[2]? = some ((4, .iconst 3, 0, 0, 0, 0, 3, 0, []) : xm_I) := rfl
theorem r_X11_round_3 : co_X11_round[3]? = some ((5, .goto 31, 0, 0, 20, 0, 0, 0, []) : xm_I) := rfl
theorem r_X11_round_4 : co_X11_round[4]? = some ((8, .iload_n 0, 0, 0, 0, 0, 0, 0, []) : xm_I) := rfl
theorem r_X11_round_5 : co_X11_round[5]? = some ((9, .iconst 3, 0, 0, 0, 0, 3, 0, []) : xm_I) := rfl
theorem r_X11_round_6 : co_X11_round[6]? = some ((10, .if_icmp .ne 7, 0, 0, 9, 0, 0, 0, []) : xm_I) := rfl
theorem r_X11_round_7 : co_X11_round[7]? = some ((13, .iconst 1, 0, 0, 0, 0, 1, 0, []) : xm_I) := rfl
theorem r_X11_round_8 : co_X11_round[8]? = some ((14, .goto 22, 0, 0, 20, 0, 0, 0, []) : xm_I) := rfl
theorem r_X11_round_9 : co_X11_round[9]? = some ((17, .iload_n 0, 0, 0, 0, 0, 0, 0, []) : xm_I) := rfl
theorem r_X11_round_10 : co_X11_round[10]? = some ((18, .iconst 1, 0, 0, 0, 0, 1, 0, []) : xm_I) := rfl
theorem r_X11_round_11 : co_X11_round[11]? = some ((19, .if_icmp .ne 7, 0, 0, 14, 0, 0, 0, []) : xm_I) := rfl
theorem r_X11_round_12 : co_X11_round[12]? = some ((22, .iconst 2, 0, 0, 0, 0, 2, 0, []) : xm_I) := rfl
theorem r_X11_round_13 : co_X11_round[13]? = some ((23, .goto 13, 0, 0, 20, 0, 0, 0, []) : xm_I) := rfl
theorem r_X11_round_14 : co_X11_round[14]? = some ((26, .iload_n 0, 0, 0, 0, 0, 0, 0, []) : xm_I) := rfl
theorem r_X11_round_15 : co_X11_round[15]? = some ((27, .iconst 2, 0, 0, 0, 0, 2, 0, []) : xm_I) := rfl
theorem r_X11_round_16 : co_X11_round[16]? = some ((28, .if_icmp .ne 7, 0, 0, 19, 0, 0, 0, []) : xm_I) := rfl
theorem r_X11_round_17 : co_X11_round[17]? = some ((31, .iconst 0, 0, 0, 0, 0, 0, 0, []) : xm_I) := rfl
theorem r_X11_round_18 : co_X11_round[18]? = some ((32, .goto 4, 0, 0, 20, 0, 0, 0, []) : xm_I) := rfl
theorem r_X11_round_19 : co_X11_round[19]? = some ((35, .iload_n 0, 0, 0, 0, 0, 0, 0, []) : xm_I) := rfl
theorem r_X11_round_20 : co_X11_round[20]? = some ((36, .ireturn, 0, 0, 0, 0, 0, 0, []) : xm_I) := rfl
theorem p_X11_round_0_0 {X : xm_X} {P : List xm_M} {d : Nat} {h : xm_H} {l0 : Int32} (q0 : l0 = (0 : Int32)) : xm_E X P d co_X11_round 0 [some (.int l0)] [] h (some (.int (3 : Int32))) h := by
  refine xm_E_s r_X11_round_0 rfl rfl ?_
  refine xm_E_s r_X11_round_1 rfl rfl ?_
  refine xm_E_t q0 ?_
  refine xm_E_s r_X11_round_2 rfl rfl ?_
  refine xm_E_s r_X11_round_3 rfl rfl ?_
  exact xm_E_iret r_X11_round_20 rfl rfl
theorem p_X11_round_0_1 {X : xm_X} {P : List xm_M} {d : Nat} {h : xm_H} {l0 : Int32} (q0 : ¬ (l0 = (0 : Int32))) (q1 : l0 = (3 : Int32)) : xm_E X P d co_X11_round 0 [some (.int l0)] [] h (some (.int (1 : Int32))) h := by
  refine xm_E_s r_X11_round_0 rfl rfl ?_
  refine xm_E_s r_X11_round_1 rfl rfl ?_
  refine xm_E_f q0 ?_
  refine xm_E_s r_X11_round_4 rfl rfl ?_
  refine xm_E_s r_X11_round_5 rfl rfl ?_
  refine xm_E_s r_X11_round_6 rfl rfl ?_
  refine xm_E_t q1 ?_
  refine xm_E_s r_X11_round_7 rfl rfl ?_
  refine xm_E_s r_X11_round_8 rfl rfl ?_
  exact xm_E_iret r_X11_round_20 rfl rfl
theorem p_X11_round_0_2 {X : xm_X} {P : List xm_M} {d : Nat} {h : xm_H} {l0 : Int32} (q0 : ¬ (l0 = (0 : Int32))) (q1 : ¬ (l0 = (3 : Int32))) (q2 : l0 = (1 : Int32)) : xm_E X P d co_X11_round 0 [some (.int l0)] [] h (some (.int (2 : Int32))) h := by
  refine xm_E_s r_X11_round_0 rfl rfl ?_
  refine xm_E_s r_X11_round_1 rfl rfl ?_
  refine xm_E_f q0 ?_
  refine xm_E_s r_X11_round_4 rfl rfl ?_
  refine xm_E_s r_X11_round_5 rfl rfl ?_
  refine xm_E_s r_X11_round_6 rfl rfl ?_
  refine xm_E_f q1 ?_
  refine xm_E_s r_X11_round_9 rfl rfl ?_
  refine xm_E_s r_X11_round_10 rfl rfl ?_
  refine xm_E_s r_X11_round_11 rfl rfl ?_
  refine xm_E_t q2 ?_
  refine xm_E_s r_X11_round_12 rfl rfl ?_
  refine xm_E_s r_X11_round_13 rfl rfl ?_
  exact xm_E_iret r_X11_round_20 rfl rfl
theorem p_X11_round_0_3 {X : xm_X} {P : List xm_M} {d : Nat} {h : xm_H} {l0 : Int32} (q0 : ¬ (l0 = (0 : Int32))) (q1 : ¬ (l0 = (3 : Int32))) (q2 : ¬ (l0 = (1 : Int32))) (q3 : l0 = (2 : Int32)) : xm_E X P d co_X11_round 0 [some (.int l0)] [] h (some (.int (0 : Int32))) h := by
  refine xm_E_s r_X11_round_0 rfl rfl ?_
  refine xm_E_s r_X11_round_1 rfl rfl ?_
  refine xm_E_f q0 ?_
  refine xm_E_s r_X11_round_4 rfl rfl ?_
  refine xm_E_s r_X11_round_5 rfl rfl ?_
  refine xm_E_s r_X11_round_6 rfl rfl ?_
  refine xm_E_f q1 ?_
  refine xm_E_s r_X11_round_9 rfl rfl ?_
  refine xm_E_s r_X11_round_10 rfl rfl ?_
  refine xm_E_s r_X11_round_11 rfl rfl ?_
  refine xm_E_f q2 ?_
  refine xm_E_s r_X11_round_14 rfl rfl ?_
  refine xm_E_s r_X11_round_15 rfl rfl ?_
  refine xm_E_s r_X11_round_16 rfl rfl ?_
  refine xm_E_t q3 ?_
  refine xm_E_s r_X11_round_17 rfl rfl ?_
  refine xm_E_s r_X11_round_18 rfl rfl ?_
  exact xm_E_iret r_X11_round_20 rfl rfl
theorem p_X11_round_0_4 {X : xm_X} {P : List xm_M} {d : Nat} {h : xm_H} {l0 : Int32} (q0 : ¬ (l0 = (0 : Int32))) (q1 : ¬ (l0 = (3 : Int32))) (q2 : ¬ (l0 = (1 : Int32))) (q3 : ¬ (l0 = (2 : Int32))) : xm_E X P d co_X11_round 0 [some (.int l0)] [] h (some (.int l0)) h := by
  refine xm_E_s r_X11_round_0 rfl rfl ?_
  refine xm_E_s r_X11_round_1 rfl rfl ?_
  refine xm_E_f q0 ?_
  refine xm_E_s r_X11_round_4 rfl rfl ?_
  refine xm_E_s r_X11_round_5 rfl rfl ?_
  refine xm_E_s r_X11_round_6 rfl rfl ?_
  refine xm_E_f q1 ?_
  refine xm_E_s r_X11_round_9 rfl rfl ?_
  refine xm_E_s r_X11_round_10 rfl rfl ?_
  refine xm_E_s r_X11_round_11 rfl rfl ?_
  refine xm_E_f q2 ?_
  refine xm_E_s r_X11_round_14 rfl rfl ?_
  refine xm_E_s r_X11_round_15 rfl rfl ?_
  refine xm_E_s r_X11_round_16 rfl rfl ?_
  refine xm_E_f q3 ?_
  refine xm_E_s r_X11_round_19 rfl rfl ?_
  exact xm_E_iret r_X11_round_20 rfl rfl
theorem r_X11_secondsGone_0 : co_X11_secondsGone[0]? = some ((0, .iconst 0, 0, 0, 0, 0, 0, 0, []) : xm_I) := rfl
theorem r_X11_secondsGone_1 : co_X11_secondsGone[1]? = some ((1, .istore_n 1, 0, 0, 0, 0, 0, 0, []) : xm_I) := rfl
theorem r_X11_secondsGone_2 : co_X11_secondsGone[2]? = some ((2, .iconst 0, 0, 0, 0, 0, 0, 0, []) : xm_I) := rfl
theorem r_X11_secondsGone_3 : co_X11_secondsGone[3]? = some ((3, .istore_n 2, 0, 0, 0, 0, 0, 0, []) : xm_I) := rfl
theorem r_X11_secondsGone_4 : co_X11_secondsGone[4]? = some ((4, .iload_n 2, 0, 0, 0, 0, 0, 0, []) : xm_I) := rfl
theorem r_X11_secondsGone_5 : co_X11_secondsGone[5]? = some ((5, .aload_n 0, 0, 0, 0, 0, 0, 0, []) : xm_I) := rfl
theorem r_X11_secondsGone_6 : co_X11_secondsGone[6]? = some ((6, .getfield 9, 1381, 10, 1, 2, 0, 0, []) : xm_I) := rfl
theorem r_X11_secondsGone_7 : co_X11_secondsGone[7]? = some ((9, .bipush 23, 0, 0, 0, 0, 23, 0, []) : xm_I) := rfl
theorem r_X11_secondsGone_8 : co_X11_secondsGone[8]? = some ((11, .iaload, 0, 0, 0, 0, 0, 0, []) : xm_I) := rfl
theorem r_X11_secondsGone_9 : co_X11_secondsGone[9]? = some ((12, .if_icmp .ge 25, 0, 0, 23, 0, 0, 0, []) : xm_I) := rfl
theorem r_X11_secondsGone_10 : co_X11_secondsGone[10]? = some ((15, .iload_n 1, 0, 0, 0, 0, 0, 0, []) : xm_I) := rfl
theorem r_X11_secondsGone_11 : co_X11_secondsGone[11]? = some ((16, .aload_n 0, 0, 0, 0, 0, 0, 0, []) : xm_I) := rfl
theorem r_X11_secondsGone_12 : co_X11_secondsGone[12]? = some ((17, .aload_n 0, 0, 0, 0, 0, 0, 0, []) : xm_I) := rfl
theorem r_X11_secondsGone_13 : co_X11_secondsGone[13]? = some ((18, .getfield 9, 1381, 10, 1, 2, 0, 0, []) : xm_I) := rfl
theorem r_X11_secondsGone_14 : co_X11_secondsGone[14]? = some ((21, .bipush 50, 0, 0, 0, 0, 50, 0, []) : xm_I) := rfl
theorem r_X11_secondsGone_15 : co_X11_secondsGone[15]? = some ((23, .iload_n 2, 0, 0, 0, 0, 0, 0, []) : xm_I) := rfl
theorem r_X11_secondsGone_16 : co_X11_secondsGone[16]? = some ((24, .iadd, 0, 0, 0, 0, 0, 0, []) : xm_I) := rfl
theorem r_X11_secondsGone_17 : co_X11_secondsGone[17]? = some ((25, .iaload, 0, 0, 0, 0, 0, 0, []) : xm_I) := rfl
theorem r_X11_secondsGone_18 : co_X11_secondsGone[18]? = some ((26, .invokevirtual 314, 1704, 233, 2, 10, 0, 0, []) : xm_I) := rfl
theorem r_X11_secondsGone_19 : co_X11_secondsGone[19]? = some ((29, .iadd, 0, 0, 0, 0, 0, 0, []) : xm_I) := rfl
theorem r_X11_secondsGone_20 : co_X11_secondsGone[20]? = some ((30, .istore_n 1, 0, 0, 0, 0, 0, 0, []) : xm_I) := rfl
theorem r_X11_secondsGone_21 : co_X11_secondsGone[21]? = some ((31, .iinc 2 1, 0, 0, 0, 0, 1, 0, []) : xm_I) := rfl
theorem r_X11_secondsGone_22 : co_X11_secondsGone[22]? = some ((34, .goto (-30), 0, 0, 4, 0, 0, 0, []) : xm_I) := rfl
theorem r_X11_secondsGone_23 : co_X11_secondsGone[23]? = some ((37, .iload_n 1, 0, 0, 0, 0, 0, 0, []) : xm_I) := rfl
theorem r_X11_secondsGone_24 : co_X11_secondsGone[24]? = some ((38, .ireturn, 0, 0, 0, 0, 0, 0, []) : xm_I) := rfl
theorem p_X11_secondsGone_0_0 {X : xm_X} {P : List xm_M} {d : Nat} {h : xm_H} {l0 : Nat} {ro : Option Value} {ho : xm_H}  (K : xm_E X P d co_X11_secondsGone 4 [some (.ref l0), some (.int (0 : Int32)), some (.int (0 : Int32))] [] h ro ho) : xm_E X P d co_X11_secondsGone 0 [some (.ref l0), none, none] [] h ro ho := by
  refine xm_E_s r_X11_secondsGone_0 rfl rfl ?_
  refine xm_E_s (ls1 := [some (.ref l0), some (.int (0 : Int32)), none]) r_X11_secondsGone_1 rfl rfl ?_
  refine xm_E_s r_X11_secondsGone_2 rfl rfl ?_
  refine xm_E_s (ls1 := [some (.ref l0), some (.int (0 : Int32)), some (.int (0 : Int32))]) r_X11_secondsGone_3 rfl rfl ?_
  exact K
theorem p_X11_secondsGone_4_0 {X : xm_X} {P : List xm_M} {d : Nat} {h : xm_H} {l0 : Nat} {l1 : Int32} {l2 : Int32} {v0 : Nat} {n1 : Nat} (q0 : X.1[l0]? = some (.inr 10)) (q1 : h.2.2 l0 1 = some v0) (q2 : X.1[v0]? = some (.inl (0, n1))) (q3 : 23 < n1) (q4 : h.1 v0 23 ≤ l2) : xm_E X P d co_X11_secondsGone 4 [some (.ref l0), some (.int l1), some (.int l2)] [] h (some (.int l1)) h := by
  refine xm_E_s r_X11_secondsGone_4 rfl rfl ?_
  refine xm_E_s r_X11_secondsGone_5 rfl rfl ?_
  refine xm_E_s r_X11_secondsGone_6 rfl (xm_T_gr rfl q0 rfl rfl q1) ?_
  refine xm_E_s r_X11_secondsGone_7 rfl rfl ?_
  refine xm_E_s r_X11_secondsGone_8 rfl (xm_T_iald rfl q2 (by decide) (fun e => e.elim (fun e => absurd e (by decide)) (fun e => Nat.not_le.mpr q3 e))) ?_
  refine xm_E_s r_X11_secondsGone_9 rfl rfl ?_
  refine xm_E_t q4 ?_
  refine xm_E_s r_X11_secondsGone_23 rfl rfl ?_
  exact xm_E_iret r_X11_secondsGone_24 rfl rfl
theorem p_X11_secondsGone_4_1 {X : xm_X} {P : List xm_M} {d : Nat} {h : xm_H} {l0 : Nat} {l1 : Int32} {l2 : Int32} {v0 : Nat} {n1 : Nat} {h2 : xm_H} {r2 : Int32} {ro : Option Value} {ho : xm_H} (q0 : X.1[l0]? = some (.inr 10)) (q1 : h.2.2 l0 1 = some v0) (q2 : X.1[v0]? = some (.inl (0, n1))) (q3 : 23 < n1) (q4 : ¬ (h.1 v0 23 ≤ l2)) (q5 : ¬ ((50 : Int32) + l2 < 0 ∨ n1 ≤ ((50 : Int32) + l2).toNatClampNeg)) (q6 : xm_V X P d 233 [.ref l0, .int (h.1 v0 (((50 : Int32) + l2).toNatClampNeg))] h (some (.int r2)) h2) (K : xm_E X P d co_X11_secondsGone 4 [some (.ref l0), some (.int (l1 + r2)), some (.int (l2 + (1 : Int32)))] [] h2 ro ho) : xm_E X P d co_X11_secondsGone 4 [some (.ref l0), some (.int l1), some (.int l2)] [] h ro ho := by
  refine xm_E_s r_X11_secondsGone_4 rfl rfl ?_
  refine xm_E_s r_X11_secondsGone_5 rfl rfl ?_
  refine xm_E_s r_X11_secondsGone_6 rfl (xm_T_gr rfl q0 rfl rfl q1) ?_
  refine xm_E_s r_X11_secondsGone_7 rfl rfl ?_
  refine xm_E_s r_X11_secondsGone_8 rfl (xm_T_iald rfl q2 (by decide) (fun e => e.elim (fun e => absurd e (by decide)) (fun e => Nat.not_le.mpr q3 e))) ?_
  refine xm_E_s r_X11_secondsGone_9 rfl rfl ?_
  refine xm_E_f q4 ?_
  refine xm_E_s r_X11_secondsGone_10 rfl rfl ?_
  refine xm_E_s r_X11_secondsGone_11 rfl rfl ?_
  refine xm_E_s r_X11_secondsGone_12 rfl rfl ?_
  refine xm_E_s r_X11_secondsGone_13 rfl (xm_T_gr rfl q0 rfl rfl q1) ?_
  refine xm_E_s r_X11_secondsGone_14 rfl rfl ?_
  refine xm_E_s r_X11_secondsGone_15 rfl rfl ?_
  refine xm_E_s r_X11_secondsGone_16 rfl rfl ?_
  refine xm_E_s r_X11_secondsGone_17 rfl (xm_T_iald rfl q2 (by decide) q5) ?_
  refine xm_E_cv [.ref l0, .int (h.1 v0 (((50 : Int32) + l2).toNatClampNeg))] [.int l1] r_X11_secondsGone_18 rfl rfl (Nat.le_of_ble_eq_true rfl) (xm_rc q0 (by decide)) rfl q6 ?_
  refine xm_E_s r_X11_secondsGone_19 rfl rfl ?_
  refine xm_E_s (ls1 := [some (.ref l0), some (.int (l1 + r2)), some (.int l2)]) r_X11_secondsGone_20 rfl rfl ?_
  refine xm_E_s (ls1 := [some (.ref l0), some (.int (l1 + r2)), some (.int (l2 + (1 : Int32)))]) r_X11_secondsGone_21 rfl rfl ?_
  refine xm_E_s r_X11_secondsGone_22 rfl rfl ?_
  exact K
theorem r_X11_takesOf_0 : co_X11_takesOf[0]? = some ((0, .iload_n 1, 0, 0, 0, 0, 0, 0, []) : xm_I) := rfl
theorem r_X11_takesOf_1 : co_X11_takesOf[1]? = some ((1, .bipush 12, 0, 0, 0, 0, 12, 0, []) : xm_I) := rfl
theorem r_X11_takesOf_2 : co_X11_takesOf[2]? = some ((3, .if_icmp .ne 7, 0, 0, 5, 0, 0, 0, []) : xm_I) := rfl
theorem r_X11_takesOf_3 : co_X11_takesOf[3]? = some ((6, .iconst 0, 0, 0, 0, 0, 0, 0, []) : xm_I) := rfl
theorem r_X11_takesOf_4 : co_X11_takesOf[4]? = some ((7, .goto 23, 0, 0, 16, 0, 0, 0, []) : xm_I) := rfl
theorem r_X11_takesOf_5 : co_X11_takesOf[5]? = some ((10, .iload_n 1, 0, 0, 0, 0, 0, 0, []) : xm_I) := rfl
theorem r_X11_takesOf_6 : co_X11_takesOf[6]? = some ((11, .bipush 10, 0, 0, 0, 0, 10, 0, []) : xm_I) := rfl
theorem r_X11_takesOf_7 : co_X11_takesOf[7]? = some ((13, .if_icmp .ge 11, 0, 0, 12, 0, 0, 0, []) : xm_I) := rfl
theorem r_X11_takesOf_8 : co_X11_takesOf[8]? = some ((16, .aload_n 0, 0, 0, 0, 0, 0, 0, []) : xm_I) := rfl
theorem r_X11_takesOf_9 : co_X11_takesOf[9]? = some ((17, .iload_n 1, 0, 0, 0, 0, 0, 0, []) : xm_I) := rfl
theorem r_X11_takesOf_10 : co_X11_takesOf[10]? = some ((18, .invokevirtual 302, 1708, 234, 2, 10, 0, 0, []) : xm_I) := rfl
theorem r_X11_takesOf_11 : co_X11_takesOf[11]? = some ((21, .goto 9, 0, 0, 16, 0, 0, 0, []) : xm_I) := rfl
theorem r_X11_takesOf_12 : co_X11_takesOf[12]? = some ((24, .aload_n 0, 0, 0, 0, 0, 0, 0, []) : xm_I) := rfl
theorem r_X11_takesOf_13 : co_X11_takesOf[13]? = some ((25, .getfield 9, 1381, 10, 1, 2, 0, 0, []) : xm_I) := rfl
theorem r_X11_takesOf_14 : co_X11_takesOf[14]? = some ((28, .iconst 5, 0, 0, 0, 0, 5, 0, []) : xm_I) := rfl
theorem r_X11_takesOf_15 : co_X11_takesOf[15]? = some ((29, .iaload, 0, 0, 0, 0, 0, 0, []) : xm_I) := rfl
theorem r_X11_takesOf_16 : co_X11_takesOf[16]? = some ((30, .ireturn, 0, 0, 0, 0, 0, 0, []) : xm_I) := rfl
theorem p_X11_takesOf_0_0 {X : xm_X} {P : List xm_M} {d : Nat} {h : xm_H} {l0 : Nat} {l1 : Int32} (q0 : l1 = (12 : Int32)) : xm_E X P d co_X11_takesOf 0 [some (.ref l0), some (.int l1)] [] h (some (.int (0 : Int32))) h := by
  refine xm_E_s r_X11_takesOf_0 rfl rfl ?_
  refine xm_E_s r_X11_takesOf_1 rfl rfl ?_
  refine xm_E_s r_X11_takesOf_2 rfl rfl ?_
  refine xm_E_t q0 ?_
  refine xm_E_s r_X11_takesOf_3 rfl rfl ?_
  refine xm_E_s r_X11_takesOf_4 rfl rfl ?_
  exact xm_E_iret r_X11_takesOf_16 rfl rfl
theorem p_X11_takesOf_0_1 {X : xm_X} {P : List xm_M} {d : Nat} {h : xm_H} {l0 : Nat} {l1 : Int32} {v0 : Nat} {n1 : Nat} (q0 : ¬ (l1 = (12 : Int32))) (q1 : (10 : Int32) ≤ l1) (q2 : X.1[l0]? = some (.inr 10)) (q3 : h.2.2 l0 1 = some v0) (q4 : X.1[v0]? = some (.inl (0, n1))) (q5 : 5 < n1) : xm_E X P d co_X11_takesOf 0 [some (.ref l0), some (.int l1)] [] h (some (.int (h.1 v0 5))) h := by
  refine xm_E_s r_X11_takesOf_0 rfl rfl ?_
  refine xm_E_s r_X11_takesOf_1 rfl rfl ?_
  refine xm_E_s r_X11_takesOf_2 rfl rfl ?_
  refine xm_E_f q0 ?_
  refine xm_E_s r_X11_takesOf_5 rfl rfl ?_
  refine xm_E_s r_X11_takesOf_6 rfl rfl ?_
  refine xm_E_s r_X11_takesOf_7 rfl rfl ?_
  refine xm_E_t q1 ?_
  refine xm_E_s r_X11_takesOf_12 rfl rfl ?_
  refine xm_E_s r_X11_takesOf_13 rfl (xm_T_gr rfl q2 rfl rfl q3) ?_
  refine xm_E_s r_X11_takesOf_14 rfl rfl ?_
  refine xm_E_s r_X11_takesOf_15 rfl (xm_T_iald rfl q4 (by decide) (fun e => e.elim (fun e => absurd e (by decide)) (fun e => Nat.not_le.mpr q5 e))) ?_
  exact xm_E_iret r_X11_takesOf_16 rfl rfl
theorem p_X11_takesOf_0_2 {X : xm_X} {P : List xm_M} {d : Nat} {h : xm_H} {l0 : Nat} {l1 : Int32} {h0 : xm_H} {r0 : Int32} (q0 : ¬ (l1 = (12 : Int32))) (q1 : ¬ ((10 : Int32) ≤ l1)) (q2 : xm_V X P d 234 [.ref l0, .int l1] h (some (.int r0)) h0) (q3 : X.1[l0]? = some (.inr 10)) : xm_E X P d co_X11_takesOf 0 [some (.ref l0), some (.int l1)] [] h (some (.int r0)) h0 := by
  refine xm_E_s r_X11_takesOf_0 rfl rfl ?_
  refine xm_E_s r_X11_takesOf_1 rfl rfl ?_
  refine xm_E_s r_X11_takesOf_2 rfl rfl ?_
  refine xm_E_f q0 ?_
  refine xm_E_s r_X11_takesOf_5 rfl rfl ?_
  refine xm_E_s r_X11_takesOf_6 rfl rfl ?_
  refine xm_E_s r_X11_takesOf_7 rfl rfl ?_
  refine xm_E_f q1 ?_
  refine xm_E_s r_X11_takesOf_8 rfl rfl ?_
  refine xm_E_s r_X11_takesOf_9 rfl rfl ?_
  refine xm_E_cv [.ref l0, .int l1] [] r_X11_takesOf_10 rfl rfl (Nat.le_of_ble_eq_true rfl) (xm_rc q3 (by decide)) rfl q2 ?_
  refine xm_E_s r_X11_takesOf_11 rfl rfl ?_
  exact xm_E_iret r_X11_takesOf_16 rfl rfl
theorem r_X11_secondsOf_0 : co_X11_secondsOf[0]? = some ((0, .aload_n 0, 0, 0, 0, 0, 0, 0, []) : xm_I) := rfl
theorem r_X11_secondsOf_1 : co_X11_secondsOf[1]? = some ((1, .getfield 9, 1381, 10, 1, 2, 0, 0, []) : xm_I) := rfl
theorem r_X11_secondsOf_2 : co_X11_secondsOf[2]? = some ((4, .iconst 5, 0, 0, 0, 0, 5, 0, []) : xm_I) := rfl
theorem r_X11_secondsOf_3 : co_X11_secondsOf[3]? = some ((5, .iload_n 1, 0, 0, 0, 0, 0, 0, []) : xm_I) := rfl
theorem r_X11_secondsOf_4 : co_X11_secondsOf[4]? = some ((6, .invokestatic 294, 1712, 235, 1, 0, 0, 0, []) : xm_I) := rfl
theorem r_X11_secondsOf_5 : co_X11_secondsOf[5]? = some ((9, .iadd, 0, 0, 0, 0, 0, 0, []) : xm_I) := rfl
theorem r_X11_secondsOf_6 : co_X11_secondsOf[6]? = some ((10, .iaload, 0, 0, 0, 0, 0, 0, []) : xm_I) := rfl
theorem r_X11_secondsOf_7 : co_X11_secondsOf[7]? = some ((11, .ireturn, 0, 0, 0, 0, 0, 0, []) : xm_I) := rfl
theorem p_X11_secondsOf_0_0 {X : xm_X} {P : List xm_M} {d : Nat} {h : xm_H} {l0 : Nat} {l1 : Int32} {v0 : Nat} {h1 : xm_H} {r1 : Int32} {n2 : Nat} (q0 : X.1[l0]? = some (.inr 10)) (q1 : h.2.2 l0 1 = some v0) (q2 : xm_V X P d 235 [.int l1] h (some (.int r1)) h1) (q3 : X.1[v0]? = some (.inl (0, n2))) (q4 : ¬ ((5 : Int32) + r1 < 0 ∨ n2 ≤ ((5 : Int32) + r1).toNatClampNeg)) : xm_E X P d co_X11_secondsOf 0 [some (.ref l0), some (.int l1)] [] h (some (.int (h1.1 v0 (((5 : Int32) + r1).toNatClampNeg)))) h1 := by
  refine xm_E_s r_X11_secondsOf_0 rfl rfl ?_
  refine xm_E_s r_X11_secondsOf_1 rfl (xm_T_gr rfl q0 rfl rfl q1) ?_
  refine xm_E_s r_X11_secondsOf_2 rfl rfl ?_
  refine xm_E_s r_X11_secondsOf_3 rfl rfl ?_
  refine xm_E_cs [.int l1] [.int (5 : Int32), .ref v0] r_X11_secondsOf_4 rfl rfl rfl (Nat.le_of_ble_eq_true rfl) rfl q2 ?_
  refine xm_E_s r_X11_secondsOf_5 rfl rfl ?_
  refine xm_E_s r_X11_secondsOf_6 rfl (xm_T_iald rfl q3 (by decide) q4) ?_
  exact xm_E_iret r_X11_secondsOf_7 rfl rfl
theorem r_X11_movingOf_0 : co_X11_movingOf[0]? = some ((0, .iload_n 0, 0, 0, 0, 0, 0, 0, []) : xm_I) := rfl
theorem r_X11_movingOf_1 : co_X11_movingOf[1]? = some ((1, .iconst 2, 0, 0, 0, 0, 2, 0, []) : xm_I) := rfl
theorem r_X11_movingOf_2 : co_X11_movingOf[2]? = some ((2, .if_icmp .ge 7, 0, 0, 5, 0, 0, 0, []) : xm_I) := rfl
theorem r_X11_movingOf_3 : co_X11_movingOf[3]? = some ((5, .iconst 0, 0, 0, 0, 0, 0, 0, []) : xm_I) := rfl
theorem r_X11_movingOf_4 : co_X11_movingOf[4]? = some ((6, .goto 43, 0, 0, 26, 0, 0, 0, []) : xm_I) := rfl
theorem r_X11_movingOf_5 : co_X11_movingOf[5]? = some ((9, .iload_n 0, 0, 0, 0, 0, 0, 0, []) : xm_I) := rfl
theorem r_X11_movingOf_6 : co_X11_movingOf[6]? = some ((10, .iconst 2, 0, 0, 0, 0, 2, 0, []) : xm_I) := rfl
theorem r_X11_movingOf_7 : co_X11_movingOf[7]? = some ((11, .if_icmp .ne 7, 0, 0, 10, 0, 0, 0, []) : xm_I) := rfl
theorem r_X11_movingOf_8 : co_X11_movingOf[8]? = some ((14, .iconst 1, 0, 0, 0, 0, 1, 0, []) : xm_I) := rfl
theorem r_X11_movingOf_9 : co_X11_movingOf[9]? = some ((15, .goto 34, 0, 0, 26, 0, 0, 0, []) : xm_I) := rfl
theorem r_X11_movingOf_10 : co_X11_movingOf[10]? = some ((18, .iload_n 0, 0, 0, 0, 0, 0, 0, []) : xm_I) := rfl
theorem r_X11_movingOf_11 : co_X11_movingOf[11]? = some ((19, .bipush 6, 0, 0, 0, 0, 6, 0, []) : xm_I) := rfl
theorem r_X11_movingOf_12 : co_X11_movingOf[12]? = some ((21, .if_icmp .ge 7, 0, 0, 15, 0, 0, 0, []) : xm_I) := rfl
theorem r_X11_movingOf_13 : co_X11_movingOf[13]? = some ((24, .iconst 2, 0, 0, 0, 0, 2, 0, []) : xm_I) := rfl
theorem r_X11_movingOf_14 : co_X11_movingOf[14]? = some ((25, .goto 24, 0, 0, 26, 0, 0, 0, []) : xm_I) := rfl
theorem r_X11_movingOf_15 : co_X11_movingOf[15]? = some ((28, .iload_n 0, 0, 0, 0, 0, 0, 0, []) : xm_I) := rfl
theorem r_X11_movingOf_16 : co_X11_movingOf[16]? = some ((29, .bipush 8, 0, 0, 0, 0, 8, 0, []) : xm_I) := rfl
theorem r_X11_movingOf_17 : co_X11_movingOf[17]? = some ((31, .if_icmp .ge 7, 0, 0, 20, 0, 0, 0, []) : xm_I) := rfl
theorem r_X11_movingOf_18 : co_X11_movingOf[18]? = some ((34, .iconst 3, 0, 0, 0, 0, 3, 0, []) : xm_I) := rfl
theorem r_X11_movingOf_19 : co_X11_movingOf[19]? = some ((35, .goto 14, 0, 0, 26, 0, 0, 0, []) : xm_I) := rfl
theorem r_X11_movingOf_20 : co_X11_movingOf[20]? = some ((38, .iload_n 0, 0, 0, 0, 0, 0, 0, []) : xm_I) := rfl
theorem r_X11_movingOf_21 : co_X11_movingOf[21]? = some ((39, .bipush 8, 0, 0, 0, 0, 8, 0, []) : xm_I) := rfl
theorem r_X11_movingOf_22 : co_X11_movingOf[22]? = some ((41, .if_icmp .ne 7, 0, 0, 25, 0, 0, 0, []) : xm_I) := rfl
theorem r_X11_movingOf_23 : co_X11_movingOf[23]? = some ((44, .iconst 4, 0, 0, 0, 0, 4, 0, []) : xm_I) := rfl
theorem r_X11_movingOf_24 : co_X11_movingOf[24]? = some ((45, .goto 4, 0, 0, 26, 0, 0, 0, []) : xm_I) := rfl
theorem r_X11_movingOf_25 : co_X11_movingOf[25]? = some ((48, .iconst 5, 0, 0, 0, 0, 5, 0, []) : xm_I) := rfl
theorem r_X11_movingOf_26 : co_X11_movingOf[26]? = some ((49, .ireturn, 0, 0, 0, 0, 0, 0, []) : xm_I) := rfl
theorem p_X11_movingOf_0_0 {X : xm_X} {P : List xm_M} {d : Nat} {h : xm_H} {l0 : Int32} (q0 : (2 : Int32) ≤ l0) (q1 : l0 = (2 : Int32)) : xm_E X P d co_X11_movingOf 0 [some (.int l0)] [] h (some (.int (1 : Int32))) h := by
  refine xm_E_s r_X11_movingOf_0 rfl rfl ?_
  refine xm_E_s r_X11_movingOf_1 rfl rfl ?_
  refine xm_E_s r_X11_movingOf_2 rfl rfl ?_
  refine xm_E_t q0 ?_
  refine xm_E_s r_X11_movingOf_5 rfl rfl ?_
  refine xm_E_s r_X11_movingOf_6 rfl rfl ?_
  refine xm_E_s r_X11_movingOf_7 rfl rfl ?_
  refine xm_E_t q1 ?_
  refine xm_E_s r_X11_movingOf_8 rfl rfl ?_
  refine xm_E_s r_X11_movingOf_9 rfl rfl ?_
  exact xm_E_iret r_X11_movingOf_26 rfl rfl
theorem p_X11_movingOf_0_1 {X : xm_X} {P : List xm_M} {d : Nat} {h : xm_H} {l0 : Int32} (q0 : (2 : Int32) ≤ l0) (q1 : ¬ (l0 = (2 : Int32))) (q2 : (6 : Int32) ≤ l0) (q3 : (8 : Int32) ≤ l0) (q4 : l0 = (8 : Int32)) : xm_E X P d co_X11_movingOf 0 [some (.int l0)] [] h (some (.int (4 : Int32))) h := by
  refine xm_E_s r_X11_movingOf_0 rfl rfl ?_
  refine xm_E_s r_X11_movingOf_1 rfl rfl ?_
  refine xm_E_s r_X11_movingOf_2 rfl rfl ?_
  refine xm_E_t q0 ?_
  refine xm_E_s r_X11_movingOf_5 rfl rfl ?_
  refine xm_E_s r_X11_movingOf_6 rfl rfl ?_
  refine xm_E_s r_X11_movingOf_7 rfl rfl ?_
  refine xm_E_f q1 ?_
  refine xm_E_s r_X11_movingOf_10 rfl rfl ?_
  refine xm_E_s r_X11_movingOf_11 rfl rfl ?_
  refine xm_E_s r_X11_movingOf_12 rfl rfl ?_
  refine xm_E_t q2 ?_
  refine xm_E_s r_X11_movingOf_15 rfl rfl ?_
  refine xm_E_s r_X11_movingOf_16 rfl rfl ?_
  refine xm_E_s r_X11_movingOf_17 rfl rfl ?_
  refine xm_E_t q3 ?_
  refine xm_E_s r_X11_movingOf_20 rfl rfl ?_
  refine xm_E_s r_X11_movingOf_21 rfl rfl ?_
  refine xm_E_s r_X11_movingOf_22 rfl rfl ?_
  refine xm_E_t q4 ?_
  refine xm_E_s r_X11_movingOf_23 rfl rfl ?_
  refine xm_E_s r_X11_movingOf_24 rfl rfl ?_
  exact xm_E_iret r_X11_movingOf_26 rfl rfl
theorem p_X11_movingOf_0_2 {X : xm_X} {P : List xm_M} {d : Nat} {h : xm_H} {l0 : Int32} (q0 : (2 : Int32) ≤ l0) (q1 : ¬ (l0 = (2 : Int32))) (q2 : (6 : Int32) ≤ l0) (q3 : (8 : Int32) ≤ l0) (q4 : ¬ (l0 = (8 : Int32))) : xm_E X P d co_X11_movingOf 0 [some (.int l0)] [] h (some (.int (5 : Int32))) h := by
  refine xm_E_s r_X11_movingOf_0 rfl rfl ?_
  refine xm_E_s r_X11_movingOf_1 rfl rfl ?_
  refine xm_E_s r_X11_movingOf_2 rfl rfl ?_
  refine xm_E_t q0 ?_
  refine xm_E_s r_X11_movingOf_5 rfl rfl ?_
  refine xm_E_s r_X11_movingOf_6 rfl rfl ?_
  refine xm_E_s r_X11_movingOf_7 rfl rfl ?_
  refine xm_E_f q1 ?_
  refine xm_E_s r_X11_movingOf_10 rfl rfl ?_
  refine xm_E_s r_X11_movingOf_11 rfl rfl ?_
  refine xm_E_s r_X11_movingOf_12 rfl rfl ?_
  refine xm_E_t q2 ?_
  refine xm_E_s r_X11_movingOf_15 rfl rfl ?_
  refine xm_E_s r_X11_movingOf_16 rfl rfl ?_
  refine xm_E_s r_X11_movingOf_17 rfl rfl ?_
  refine xm_E_t q3 ?_
  refine xm_E_s r_X11_movingOf_20 rfl rfl ?_
  refine xm_E_s r_X11_movingOf_21 rfl rfl ?_
  refine xm_E_s r_X11_movingOf_22 rfl rfl ?_
  refine xm_E_f q4 ?_
  refine xm_E_s r_X11_movingOf_25 rfl rfl ?_
  exact xm_E_iret r_X11_movingOf_26 rfl rfl
theorem p_X11_movingOf_0_3 {X : xm_X} {P : List xm_M} {d : Nat} {h : xm_H} {l0 : Int32} (q0 : (2 : Int32) ≤ l0) (q1 : ¬ (l0 = (2 : Int32))) (q2 : (6 : Int32) ≤ l0) (q3 : ¬ ((8 : Int32) ≤ l0)) : xm_E X P d co_X11_movingOf 0 [some (.int l0)] [] h (some (.int (3 : Int32))) h := by
  refine xm_E_s r_X11_movingOf_0 rfl rfl ?_
  refine xm_E_s r_X11_movingOf_1 rfl rfl ?_
  refine xm_E_s r_X11_movingOf_2 rfl rfl ?_
  refine xm_E_t q0 ?_
  refine xm_E_s r_X11_movingOf_5 rfl rfl ?_
  refine xm_E_s r_X11_movingOf_6 rfl rfl ?_
  refine xm_E_s r_X11_movingOf_7 rfl rfl ?_
  refine xm_E_f q1 ?_
  refine xm_E_s r_X11_movingOf_10 rfl rfl ?_
  refine xm_E_s r_X11_movingOf_11 rfl rfl ?_
  refine xm_E_s r_X11_movingOf_12 rfl rfl ?_
  refine xm_E_t q2 ?_
  refine xm_E_s r_X11_movingOf_15 rfl rfl ?_
  refine xm_E_s r_X11_movingOf_16 rfl rfl ?_
  refine xm_E_s r_X11_movingOf_17 rfl rfl ?_
  refine xm_E_f q3 ?_
  refine xm_E_s r_X11_movingOf_18 rfl rfl ?_
  refine xm_E_s r_X11_movingOf_19 rfl rfl ?_
  exact xm_E_iret r_X11_movingOf_26 rfl rfl
theorem p_X11_movingOf_0_4 {X : xm_X} {P : List xm_M} {d : Nat} {h : xm_H} {l0 : Int32} (q0 : (2 : Int32) ≤ l0) (q1 : ¬ (l0 = (2 : Int32))) (q2 : ¬ ((6 : Int32) ≤ l0)) : xm_E X P d co_X11_movingOf 0 [some (.int l0)] [] h (some (.int (2 : Int32))) h := by
  refine xm_E_s r_X11_movingOf_0 rfl rfl ?_
  refine xm_E_s r_X11_movingOf_1 rfl rfl ?_
  refine xm_E_s r_X11_movingOf_2 rfl rfl ?_
  refine xm_E_t q0 ?_
  refine xm_E_s r_X11_movingOf_5 rfl rfl ?_
  refine xm_E_s r_X11_movingOf_6 rfl rfl ?_
  refine xm_E_s r_X11_movingOf_7 rfl rfl ?_
  refine xm_E_f q1 ?_
  refine xm_E_s r_X11_movingOf_10 rfl rfl ?_
  refine xm_E_s r_X11_movingOf_11 rfl rfl ?_
  refine xm_E_s r_X11_movingOf_12 rfl rfl ?_
  refine xm_E_f q2 ?_
  refine xm_E_s r_X11_movingOf_13 rfl rfl ?_
  refine xm_E_s r_X11_movingOf_14 rfl rfl ?_
  exact xm_E_iret r_X11_movingOf_26 rfl rfl
theorem p_X11_movingOf_0_5 {X : xm_X} {P : List xm_M} {d : Nat} {h : xm_H} {l0 : Int32} (q0 : ¬ ((2 : Int32) ≤ l0)) : xm_E X P d co_X11_movingOf 0 [some (.int l0)] [] h (some (.int (0 : Int32))) h := by
  refine xm_E_s r_X11_movingOf_0 rfl rfl ?_
  refine xm_E_s r_X11_movingOf_1 rfl rfl ?_
  refine xm_E_s r_X11_movingOf_2 rfl rfl ?_
  refine xm_E_f q0 ?_
  refine xm_E_s r_X11_movingOf_3 rfl rfl ?_
  refine xm_E_s r_X11_movingOf_4 rfl rfl ?_
  exact xm_E_iret r_X11_movingOf_26 rfl rfl
theorem r_X11_ofState_0 : co_X11_ofState[0]? = some ((0, .iload_n 2, 0, 0, 0, 0, 0, 0, []) : xm_I) := rfl
theorem r_X11_ofState_1 : co_X11_ofState[1]? = some ((1, .tableswitch 87 0 6 #[43, 48, 53, 58, 63, 68, 74], 0, 0, 30, 0, 0, 0, [2, 5, 8, 11, 14, 17, 21]) : xm_I) := rfl
theorem r_X11_ofState_2 : co_X11_ofState[2]? = some ((44, .iload_n 1, 0, 0, 0, 0, 0, 0, []) : xm_I) := rfl
theorem r_X11_ofState_3 : co_X11_ofState[3]? = some ((45, .invokestatic 265, 1674, 224, 1, 0, 0, 0, []) : xm_I) := rfl
theorem r_X11_ofState_4 : co_X11_ofState[4]? = some ((48, .ireturn, 0, 0, 0, 0, 0, 0, []) : xm_I) := rfl
theorem r_X11_ofState_5 : co_X11_ofState[5]? = some ((49, .iload_n 1, 0, 0, 0, 0, 0, 0, []) : xm_I) := rfl
theorem r_X11_ofState_6 : co_X11_ofState[6]? = some ((50, .invokestatic 268, 1677, 225, 1, 0, 0, 0, []) : xm_I) := rfl
theorem r_X11_ofState_7 : co_X11_ofState[7]? = some ((53, .ireturn, 0, 0, 0, 0, 0, 0, []) : xm_I) := rfl
theorem r_X11_ofState_8 : co_X11_ofState[8]? = some ((54, .iload_n 1, 0, 0, 0, 0, 0, 0, []) : xm_I) := rfl
theorem r_X11_ofState_9 : co_X11_ofState[9]? = some ((55, .invokestatic 274, 1680, 226, 1, 0, 0, 0, []) : xm_I) := rfl
theorem r_X11_ofState_10 : co_X11_ofState[10]? = some ((58, .ireturn, 0, 0, 0, 0, 0, 0, []) : xm_I) := rfl
theorem r_X11_ofState_11 : co_X11_ofState[11]? = some ((59, .iload_n 1, 0, 0, 0, 0, 0, 0, []) : xm_I) := rfl
theorem r_X11_ofState_12 : co_X11_ofState[12]? = some ((60, .invokestatic 277, 1683, 227, 1, 0, 0, 0, []) : xm_I) := rfl
theorem r_X11_ofState_13 : co_X11_ofState[13]? = some ((63, .ireturn, 0, 0, 0, 0, 0, 0, []) : xm_I) := rfl
theorem r_X11_ofState_14 : co_X11_ofState[14]? = some ((64, .iload_n 1, 0, 0, 0, 0, 0, 0, []) : xm_I) := rfl
theorem r_X11_ofState_15 : co_X11_ofState[15]? = some ((65, .invokestatic 280, 1686, 228, 1, 0, 0, 0, []) : xm_I) := rfl
theorem r_X11_ofState_16 : co_X11_ofState[16]? = some ((68, .ireturn, 0, 0, 0, 0, 0, 0, []) : xm_I) := rfl
theorem r_X11_ofState_17 : co_X11_ofState[17]? = some ((69, .aload_n 0, 0, 0, 0, 0, 0, 0, []) : xm_I) := rfl
theorem r_X11_ofState_18 : co_X11_ofState[18]? = some ((70, .iload_n 1, 0, 0, 0, 0, 0, 0, []) : xm_I) := rfl
theorem r_X11_ofState_19 : co_X11_ofState[19]? = some ((71, .invokevirtual 317, 1719, 237, 2, 10, 0, 0, []) : xm_I) := rfl
theorem r_X11_ofState_20 : co_X11_ofState[20]? = some ((74, .ireturn, 0, 0, 0, 0, 0, 0, []) : xm_I) := rfl
theorem r_X11_ofState_21 : co_X11_ofState[21]? = some ((75, .aload_n 0, 0, 0, 0, 0, 0, 0, []) : xm_I) := rfl
theorem r_X11_ofState_22 : co_X11_ofState[22]? = some ((76, .iload_n 1, 0, 0, 0, 0, 0, 0, []) : xm_I) := rfl
theorem r_X11_ofState_23 : co_X11_ofState[23]? = some ((77, .invokevirtual 317, 1719, 237, 2, 10, 0, 0, []) : xm_I) := rfl
theorem r_X11_ofState_24 : co_X11_ofState[24]? = some ((80, .aload_n 0, 0, 0, 0, 0, 0, 0, []) : xm_I) := rfl
theorem r_X11_ofState_25 : co_X11_ofState[25]? = some ((81, .getfield 9, 1381, 10, 1, 2, 0, 0, []) : xm_I) := rfl
theorem r_X11_ofState_26 : co_X11_ofState[26]? = some ((84, .iconst 2, 0, 0, 0, 0, 2, 0, []) : xm_I) := rfl
theorem r_X11_ofState_27 : co_X11_ofState[27]? = some ((85, .iaload, 0, 0, 0, 0, 0, 0, []) : xm_I) := rfl
theorem r_X11_ofState_28 : co_X11_ofState[28]? = some ((86, .imul, 0, 0, 0, 0, 0, 0, []) : xm_I) := rfl
theorem r_X11_ofState_29 : co_X11_ofState[29]? = some ((87, .ireturn, 0, 0, 0, 0, 0, 0, []) : xm_I) := rfl
theorem r_X11_ofState_30 : co_X11_ofState[30]? = some ((88, .iload_n 3, 0, 0, 0, 0, 0, 0, []) : xm_I) := rfl
theorem r_X11_ofState_31 : co_X11_ofState[31]? = some ((89, .ireturn, 0, 0, 0, 0, 0, 0, []) : xm_I) := rfl
theorem p_X11_ofState_0_0 {X : xm_X} {P : List xm_M} {d : Nat} {h : xm_H} {l0 : Nat} {l1 : Int32} {l2 : Int32} {l3 : Int32} {h0 : xm_H} {r0 : Int32} (q0 : l2 = (0 : Int32)) (q1 : xm_V X P d 224 [.int l1] h (some (.int r0)) h0) : xm_E X P d co_X11_ofState 0 [some (.ref l0), some (.int l1), some (.int l2), some (.int l3)] [] h (some (.int r0)) h0 := by
  refine xm_E_s r_X11_ofState_0 rfl rfl ?_
  refine xm_E_s r_X11_ofState_1 rfl (xm_T_tab (0 : Int32) 2 rfl q0 (by decide) rfl) ?_
  refine xm_E_s r_X11_ofState_2 rfl rfl ?_
  refine xm_E_cs [.int l1] [] r_X11_ofState_3 rfl rfl rfl (Nat.le_of_ble_eq_true rfl) rfl q1 ?_
  exact xm_E_iret r_X11_ofState_4 rfl rfl
theorem p_X11_ofState_0_1 {X : xm_X} {P : List xm_M} {d : Nat} {h : xm_H} {l0 : Nat} {l1 : Int32} {l2 : Int32} {l3 : Int32} {h0 : xm_H} {r0 : Int32} (q0 : l2 = (1 : Int32)) (q1 : xm_V X P d 225 [.int l1] h (some (.int r0)) h0) : xm_E X P d co_X11_ofState 0 [some (.ref l0), some (.int l1), some (.int l2), some (.int l3)] [] h (some (.int r0)) h0 := by
  refine xm_E_s r_X11_ofState_0 rfl rfl ?_
  refine xm_E_s r_X11_ofState_1 rfl (xm_T_tab (1 : Int32) 5 rfl q0 (by decide) rfl) ?_
  refine xm_E_s r_X11_ofState_5 rfl rfl ?_
  refine xm_E_cs [.int l1] [] r_X11_ofState_6 rfl rfl rfl (Nat.le_of_ble_eq_true rfl) rfl q1 ?_
  exact xm_E_iret r_X11_ofState_7 rfl rfl
theorem p_X11_ofState_0_2 {X : xm_X} {P : List xm_M} {d : Nat} {h : xm_H} {l0 : Nat} {l1 : Int32} {l2 : Int32} {l3 : Int32} {h0 : xm_H} {r0 : Int32} (q0 : l2 = (2 : Int32)) (q1 : xm_V X P d 226 [.int l1] h (some (.int r0)) h0) : xm_E X P d co_X11_ofState 0 [some (.ref l0), some (.int l1), some (.int l2), some (.int l3)] [] h (some (.int r0)) h0 := by
  refine xm_E_s r_X11_ofState_0 rfl rfl ?_
  refine xm_E_s r_X11_ofState_1 rfl (xm_T_tab (2 : Int32) 8 rfl q0 (by decide) rfl) ?_
  refine xm_E_s r_X11_ofState_8 rfl rfl ?_
  refine xm_E_cs [.int l1] [] r_X11_ofState_9 rfl rfl rfl (Nat.le_of_ble_eq_true rfl) rfl q1 ?_
  exact xm_E_iret r_X11_ofState_10 rfl rfl
theorem p_X11_ofState_0_3 {X : xm_X} {P : List xm_M} {d : Nat} {h : xm_H} {l0 : Nat} {l1 : Int32} {l2 : Int32} {l3 : Int32} {h0 : xm_H} {r0 : Int32} (q0 : l2 = (3 : Int32)) (q1 : xm_V X P d 227 [.int l1] h (some (.int r0)) h0) : xm_E X P d co_X11_ofState 0 [some (.ref l0), some (.int l1), some (.int l2), some (.int l3)] [] h (some (.int r0)) h0 := by
  refine xm_E_s r_X11_ofState_0 rfl rfl ?_
  refine xm_E_s r_X11_ofState_1 rfl (xm_T_tab (3 : Int32) 11 rfl q0 (by decide) rfl) ?_
  refine xm_E_s r_X11_ofState_11 rfl rfl ?_
  refine xm_E_cs [.int l1] [] r_X11_ofState_12 rfl rfl rfl (Nat.le_of_ble_eq_true rfl) rfl q1 ?_
  exact xm_E_iret r_X11_ofState_13 rfl rfl
theorem p_X11_ofState_0_4 {X : xm_X} {P : List xm_M} {d : Nat} {h : xm_H} {l0 : Nat} {l1 : Int32} {l2 : Int32} {l3 : Int32} {h0 : xm_H} {r0 : Int32} (q0 : l2 = (4 : Int32)) (q1 : xm_V X P d 228 [.int l1] h (some (.int r0)) h0) : xm_E X P d co_X11_ofState 0 [some (.ref l0), some (.int l1), some (.int l2), some (.int l3)] [] h (some (.int r0)) h0 := by
  refine xm_E_s r_X11_ofState_0 rfl rfl ?_
  refine xm_E_s r_X11_ofState_1 rfl (xm_T_tab (4 : Int32) 14 rfl q0 (by decide) rfl) ?_
  refine xm_E_s r_X11_ofState_14 rfl rfl ?_
  refine xm_E_cs [.int l1] [] r_X11_ofState_15 rfl rfl rfl (Nat.le_of_ble_eq_true rfl) rfl q1 ?_
  exact xm_E_iret r_X11_ofState_16 rfl rfl
theorem p_X11_ofState_0_5 {X : xm_X} {P : List xm_M} {d : Nat} {h : xm_H} {l0 : Nat} {l1 : Int32} {l2 : Int32} {l3 : Int32} {h0 : xm_H} {r0 : Int32} (q0 : l2 = (5 : Int32)) (q1 : xm_V X P d 237 [.ref l0, .int l1] h (some (.int r0)) h0) (q2 : X.1[l0]? = some (.inr 10)) : xm_E X P d co_X11_ofState 0 [some (.ref l0), some (.int l1), some (.int l2), some (.int l3)] [] h (some (.int r0)) h0 := by
  refine xm_E_s r_X11_ofState_0 rfl rfl ?_
  refine xm_E_s r_X11_ofState_1 rfl (xm_T_tab (5 : Int32) 17 rfl q0 (by decide) rfl) ?_
  refine xm_E_s r_X11_ofState_17 rfl rfl ?_
  refine xm_E_s r_X11_ofState_18 rfl rfl ?_
  refine xm_E_cv [.ref l0, .int l1] [] r_X11_ofState_19 rfl rfl (Nat.le_of_ble_eq_true rfl) (xm_rc q2 (by decide)) rfl q1 ?_
  exact xm_E_iret r_X11_ofState_20 rfl rfl
theorem p_X11_ofState_0_6 {X : xm_X} {P : List xm_M} {d : Nat} {h : xm_H} {l0 : Nat} {l1 : Int32} {l2 : Int32} {l3 : Int32} {h0 : xm_H} {r0 : Int32} {v1 : Nat} {n2 : Nat} (q0 : l2 = (6 : Int32)) (q1 : xm_V X P d 237 [.ref l0, .int l1] h (some (.int r0)) h0) (q2 : X.1[l0]? = some (.inr 10)) (q3 : h0.2.2 l0 1 = some v1) (q4 : X.1[v1]? = some (.inl (0, n2))) (q5 : 2 < n2) : xm_E X P d co_X11_ofState 0 [some (.ref l0), some (.int l1), some (.int l2), some (.int l3)] [] h (some (.int (r0 * (h0.1 v1 2)))) h0 := by
  refine xm_E_s r_X11_ofState_0 rfl rfl ?_
  refine xm_E_s r_X11_ofState_1 rfl (xm_T_tab (6 : Int32) 21 rfl q0 (by decide) rfl) ?_
  refine xm_E_s r_X11_ofState_21 rfl rfl ?_
  refine xm_E_s r_X11_ofState_22 rfl rfl ?_
  refine xm_E_cv [.ref l0, .int l1] [] r_X11_ofState_23 rfl rfl (Nat.le_of_ble_eq_true rfl) (xm_rc q2 (by decide)) rfl q1 ?_
  refine xm_E_s r_X11_ofState_24 rfl rfl ?_
  refine xm_E_s r_X11_ofState_25 rfl (xm_T_gr rfl q2 rfl rfl q3) ?_
  refine xm_E_s r_X11_ofState_26 rfl rfl ?_
  refine xm_E_s r_X11_ofState_27 rfl (xm_T_iald rfl q4 (by decide) (fun e => e.elim (fun e => absurd e (by decide)) (fun e => Nat.not_le.mpr q5 e))) ?_
  refine xm_E_s r_X11_ofState_28 rfl rfl ?_
  exact xm_E_iret r_X11_ofState_29 rfl rfl
theorem p_X11_ofState_0_7 {X : xm_X} {P : List xm_M} {d : Nat} {h : xm_H} {l0 : Nat} {l1 : Int32} {l2 : Int32} {l3 : Int32} (q0 : l2.toInt < 0 ∨ 6 < l2.toInt) : xm_E X P d co_X11_ofState 0 [some (.ref l0), some (.int l1), some (.int l2), some (.int l3)] [] h (some (.int l3)) h := by
  refine xm_E_s r_X11_ofState_0 rfl rfl ?_
  refine xm_E_s r_X11_ofState_1 rfl (xm_T_tabd rfl q0) ?_
  refine xm_E_s r_X11_ofState_30 rfl rfl ?_
  exact xm_E_iret r_X11_ofState_31 rfl rfl
theorem r_X11_layersOf_0 : co_X11_layersOf[0]? = some ((0, .aload_n 0, 0, 0, 0, 0, 0, 0, []) : xm_I) := rfl
theorem r_X11_layersOf_1 : co_X11_layersOf[1]? = some ((1, .getfield 9, 1381, 10, 1, 2, 0, 0, []) : xm_I) := rfl
theorem r_X11_layersOf_2 : co_X11_layersOf[2]? = some ((4, .iconst 0, 0, 0, 0, 0, 0, 0, []) : xm_I) := rfl
theorem r_X11_layersOf_3 : co_X11_layersOf[3]? = some ((5, .iaload, 0, 0, 0, 0, 0, 0, []) : xm_I) := rfl
theorem r_X11_layersOf_4 : co_X11_layersOf[4]? = some ((6, .aload_n 0, 0, 0, 0, 0, 0, 0, []) : xm_I) := rfl
theorem r_X11_layersOf_5 : co_X11_layersOf[5]? = some ((7, .getfield 9, 1381, 10, 1, 2, 0, 0, []) : xm_I) := rfl
theorem r_X11_layersOf_6 : co_X11_layersOf[6]? = some ((10, .iconst 1, 0, 0, 0, 0, 1, 0, []) : xm_I) := rfl
theorem r_X11_layersOf_7 : co_X11_layersOf[7]? = some ((11, .iaload, 0, 0, 0, 0, 0, 0, []) : xm_I) := rfl
theorem r_X11_layersOf_8 : co_X11_layersOf[8]? = some ((12, .imul, 0, 0, 0, 0, 0, 0, []) : xm_I) := rfl
theorem r_X11_layersOf_9 : co_X11_layersOf[9]? = some ((13, .iload_n 1, 0, 0, 0, 0, 0, 0, []) : xm_I) := rfl
theorem r_X11_layersOf_10 : co_X11_layersOf[10]? = some ((14, .invokestatic 265, 1674, 224, 1, 0, 0, 0, []) : xm_I) := rfl
theorem r_X11_layersOf_11 : co_X11_layersOf[11]? = some ((17, .iload_n 1, 0, 0, 0, 0, 0, 0, []) : xm_I) := rfl
theorem r_X11_layersOf_12 : co_X11_layersOf[12]? = some ((18, .invokestatic 268, 1677, 225, 1, 0, 0, 0, []) : xm_I) := rfl
theorem r_X11_layersOf_13 : co_X11_layersOf[13]? = some ((21, .imul, 0, 0, 0, 0, 0, 0, []) : xm_I) := rfl
theorem r_X11_layersOf_14 : co_X11_layersOf[14]? = some ((22, .idiv, 0, 0, 0, 0, 0, 0, []) : xm_I) := rfl
theorem r_X11_layersOf_15 : co_X11_layersOf[15]? = some ((23, .ireturn, 0, 0, 0, 0, 0, 0, []) : xm_I) := rfl
theorem p_X11_layersOf_0_0 {X : xm_X} {P : List xm_M} {d : Nat} {h : xm_H} {l0 : Nat} {l1 : Int32} {v0 : Nat} {n1 : Nat} {h2 : xm_H} {r2 : Int32} {h3 : xm_H} {r3 : Int32} (q0 : X.1[l0]? = some (.inr 10)) (q1 : h.2.2 l0 1 = some v0) (q2 : X.1[v0]? = some (.inl (0, n1))) (q3 : 0 < n1) (q4 : 1 < n1) (q5 : xm_V X P d 224 [.int l1] h (some (.int r2)) h2) (q6 : xm_V X P d 225 [.int l1] h2 (some (.int r3)) h3) (q7 : ¬ (r2 * r3) = 0) : xm_E X P d co_X11_layersOf 0 [some (.ref l0), some (.int l1)] [] h (some (.int (((h.1 v0 0) * (h.1 v0 1)) / (r2 * r3)))) h3 := by
  refine xm_E_s r_X11_layersOf_0 rfl rfl ?_
  refine xm_E_s r_X11_layersOf_1 rfl (xm_T_gr rfl q0 rfl rfl q1) ?_
  refine xm_E_s r_X11_layersOf_2 rfl rfl ?_
  refine xm_E_s r_X11_layersOf_3 rfl (xm_T_iald rfl q2 (by decide) (fun e => e.elim (fun e => absurd e (by decide)) (fun e => Nat.not_le.mpr q3 e))) ?_
  refine xm_E_s r_X11_layersOf_4 rfl rfl ?_
  refine xm_E_s r_X11_layersOf_5 rfl (xm_T_gr rfl q0 rfl rfl q1) ?_
  refine xm_E_s r_X11_layersOf_6 rfl rfl ?_
  refine xm_E_s r_X11_layersOf_7 rfl (xm_T_iald rfl q2 (by decide) (fun e => e.elim (fun e => absurd e (by decide)) (fun e => Nat.not_le.mpr q4 e))) ?_
  refine xm_E_s r_X11_layersOf_8 rfl rfl ?_
  refine xm_E_s r_X11_layersOf_9 rfl rfl ?_
  refine xm_E_cs [.int l1] [.int ((h.1 v0 0) * (h.1 v0 1))] r_X11_layersOf_10 rfl rfl rfl (Nat.le_of_ble_eq_true rfl) rfl q5 ?_
  refine xm_E_s r_X11_layersOf_11 rfl rfl ?_
  refine xm_E_cs [.int l1] [.int r2, .int ((h.1 v0 0) * (h.1 v0 1))] r_X11_layersOf_12 rfl rfl rfl (Nat.le_of_ble_eq_true rfl) rfl q6 ?_
  refine xm_E_s r_X11_layersOf_13 rfl rfl ?_
  refine xm_E_s r_X11_layersOf_14 rfl (xm_T_idiv rfl q7) ?_
  exact xm_E_iret r_X11_layersOf_15 rfl rfl
end XMPA
