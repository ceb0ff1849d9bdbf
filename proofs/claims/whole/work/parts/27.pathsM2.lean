/-! Ways through methods, printed by wip/gen/paths.py -/
section XMPA
theorem r_X11_can_0 : co_X11_can[0]? = some ((0, .aload_n 0, 0, 0, 0, 0, 0, 0, []) : xm_I) := rfl
theorem r_X11_can_1 : co_X11_can[1]? = some ((1, .invokevirtual 324, 1643, 216, 1, 10, 0, 0, []) : xm_I) := rfl
theorem r_X11_can_2 : co_X11_can[2]? = some ((4, .ifCond .eq 11, 0, 0, 7, 0, 0, 0, []) : xm_I) := rfl
theorem r_X11_can_3 : co_X11_can[3]? = some ((7, .iload_n 1, 0, 0, 0, 0, 0, 0, []) : xm_I) := rfl
theorem r_X11_can_4 : co_X11_can[4]? = some ((8, .i2l, 0, 0, 0, 0, 0, 0, []) : xm_I) := rfl
theorem r_X11_can_5 : co_X11_can[5]? = some ((9, .invokestatic 340, 1727, 239, 1, 0, 0, 0, []) : xm_I) := rfl
theorem r_X11_can_6 : co_X11_can[6]? = some ((12, .ifCond .ne 8, 0, 0, 9, 0, 0, 0, []) : xm_I) := rfl
theorem r_X11_can_7 : co_X11_can[7]? = some ((15, .bipush (-2), 0, 0, 0, 0, (-2), 0, []) : xm_I) := rfl
theorem r_X11_can_8 : co_X11_can[8]? = some ((17, .goto 21, 0, 0, 19, 0, 0, 0, []) : xm_I) := rfl
theorem r_X11_can_9 : co_X11_can[9]? = some ((20, .aload_n 0, 0, 0, 0, 0, 0, 0, []) : xm_I) := rfl
theorem r_X11_can_10 : co_X11_can[10]? = some ((21, .aload_n 0, 0, 0, 0, 0, 0, 0, []) : xm_I) := rfl
theorem r_X11_can_11 : co_X11_can[11]? = some ((22, .invokevirtual 331, 1651, 218, 1, 10, 0, 0, []) : xm_I) := rfl
theorem r_X11_can_12 : co_X11_can[12]? = some ((25, .iload_n 1, 0, 0, 0, 0, 0, 0, []) : xm_I) := rfl
theorem r_X11_can_13 : co_X11_can[13]? = some ((26, .invokevirtual 297, 1670, 223, 3, 10, 0, 0, []) : xm_I) := rfl
theorem r_X11_can_14 : co_X11_can[14]? = some ((29, .iconst (-1), 0, 0, 0, 0, (-1), 0, []) : xm_I) := rfl
theorem r_X11_can_15 : co_X11_can[15]? = some ((30, .if_icmp .ne 7, 0, 0, 18, 0, 0, 0, []) : xm_I) := rfl
theorem r_X11_can_16 : co_X11_can[16]? = some ((33, .iconst 0, 0, 0, 0, 0, 0, 0, []) : xm_I) := rfl
theorem r_X11_can_17 : co_X11_can[17]? = some ((34, .goto 4, 0, 0, 19, 0, 0, 0, []) : xm_I) := rfl
theorem r_X11_can_18 : co_X11_can[18]? = some ((37, .iconst 1, 0, 0, 0, 0, 1, 0, []) : xm_I) := rfl
theorem r_X11_can_19 : co_X11_can[19]? = some ((38, .ireturn, 0, 0, 0, 0, 0, 0, []) : xm_I) := rfl
theorem p_X11_can_0_0 {X : xm_X} {P : List xm_M} {d : Nat} {h : xm_H} {l0 : Nat} {l1 : Int32} {h0 : xm_H} {r0 : Int32} (q0 : xm_V X P d 216 [.ref l0] h (some (.int r0)) h0) (q1 : X.1[l0]? = some (.inr 10)) (q2 : r0 = (0 : Int32)) : xm_E X P d co_X11_can 0 [some (.ref l0), some (.int l1)] [] h (some (.int (-2 : Int32))) h0 := by
  refine xm_E_s r_X11_can_0 rfl rfl ?_
  refine xm_E_cv [.ref l0] [] r_X11_can_1 rfl rfl (Nat.le_of_ble_eq_true rfl) (xm_rc q1 (by decide)) rfl q0 ?_
  refine xm_E_s r_X11_can_2 rfl rfl ?_
  refine xm_E_t q2 ?_
  refine xm_E_s r_X11_can_7 rfl rfl ?_
  refine xm_E_s r_X11_can_8 rfl rfl ?_
  exact xm_E_iret r_X11_can_19 rfl rfl
theorem p_X11_can_0_1 {X : xm_X} {P : List xm_M} {d : Nat} {h : xm_H} {l0 : Nat} {l1 : Int32} {h0 : xm_H} {r0 : Int32} {h1 : xm_H} {r1 : Int32} (q0 : xm_V X P d 216 [.ref l0] h (some (.int r0)) h0) (q1 : X.1[l0]? = some (.inr 10)) (q2 : ¬ (r0 = (0 : Int32))) (q3 : xm_V X P d 239 [.long l1.toInt64] h0 (some (.int r1)) h1) (q4 : r1 = (0 : Int32)) : xm_E X P d co_X11_can 0 [some (.ref l0), some (.int l1)] [] h (some (.int (-2 : Int32))) h1 := by
  refine xm_E_s r_X11_can_0 rfl rfl ?_
  refine xm_E_cv [.ref l0] [] r_X11_can_1 rfl rfl (Nat.le_of_ble_eq_true rfl) (xm_rc q1 (by decide)) rfl q0 ?_
  refine xm_E_s r_X11_can_2 rfl rfl ?_
  refine xm_E_f q2 ?_
  refine xm_E_s r_X11_can_3 rfl rfl ?_
  refine xm_E_s r_X11_can_4 rfl rfl ?_
  refine xm_E_cs [.long l1.toInt64] [] r_X11_can_5 rfl rfl rfl (Nat.le_of_ble_eq_true rfl) rfl q3 ?_
  refine xm_E_s r_X11_can_6 rfl rfl ?_
  refine xm_E_t q4 ?_
  refine xm_E_s r_X11_can_7 rfl rfl ?_
  refine xm_E_s r_X11_can_8 rfl rfl ?_
  exact xm_E_iret r_X11_can_19 rfl rfl
theorem p_X11_can_0_2 {X : xm_X} {P : List xm_M} {d : Nat} {h : xm_H} {l0 : Nat} {l1 : Int32} {h0 : xm_H} {r0 : Int32} {h1 : xm_H} {r1 : Int32} {h2 : xm_H} {r2 : Int32} {h3 : xm_H} {r3 : Int32} (q0 : xm_V X P d 216 [.ref l0] h (some (.int r0)) h0) (q1 : X.1[l0]? = some (.inr 10)) (q2 : ¬ (r0 = (0 : Int32))) (q3 : xm_V X P d 239 [.long l1.toInt64] h0 (some (.int r1)) h1) (q4 : ¬ (r1 = (0 : Int32))) (q5 : xm_V X P d 218 [.ref l0] h1 (some (.int r2)) h2) (q6 : xm_V X P d 223 [.ref l0, .int r2, .int l1] h2 (some (.int r3)) h3) (q7 : r3 = (-1 : Int32)) : xm_E X P d co_X11_can 0 [some (.ref l0), some (.int l1)] [] h (some (.int (0 : Int32))) h3 := by
  refine xm_E_s r_X11_can_0 rfl rfl ?_
  refine xm_E_cv [.ref l0] [] r_X11_can_1 rfl rfl (Nat.le_of_ble_eq_true rfl) (xm_rc q1 (by decide)) rfl q0 ?_
  refine xm_E_s r_X11_can_2 rfl rfl ?_
  refine xm_E_f q2 ?_
  refine xm_E_s r_X11_can_3 rfl rfl ?_
  refine xm_E_s r_X11_can_4 rfl rfl ?_
  refine xm_E_cs [.long l1.toInt64] [] r_X11_can_5 rfl rfl rfl (Nat.le_of_ble_eq_true rfl) rfl q3 ?_
  refine xm_E_s r_X11_can_6 rfl rfl ?_
  refine xm_E_f q4 ?_
  refine xm_E_s r_X11_can_9 rfl rfl ?_
  refine xm_E_s r_X11_can_10 rfl rfl ?_
  refine xm_E_cv [.ref l0] [.ref l0] r_X11_can_11 rfl rfl (Nat.le_of_ble_eq_true rfl) (xm_rc q1 (by decide)) rfl q5 ?_
  refine xm_E_s r_X11_can_12 rfl rfl ?_
  refine xm_E_cv [.ref l0, .int r2, .int l1] [] r_X11_can_13 rfl rfl (Nat.le_of_ble_eq_true rfl) (xm_rc q1 (by decide)) rfl q6 ?_
  refine xm_E_s r_X11_can_14 rfl rfl ?_
  refine xm_E_s r_X11_can_15 rfl rfl ?_
  refine xm_E_t q7 ?_
  refine xm_E_s r_X11_can_16 rfl rfl ?_
  refine xm_E_s r_X11_can_17 rfl rfl ?_
  exact xm_E_iret r_X11_can_19 rfl rfl
theorem p_X11_can_0_3 {X : xm_X} {P : List xm_M} {d : Nat} {h : xm_H} {l0 : Nat} {l1 : Int32} {h0 : xm_H} {r0 : Int32} {h1 : xm_H} {r1 : Int32} {h2 : xm_H} {r2 : Int32} {h3 : xm_H} {r3 : Int32} (q0 : xm_V X P d 216 [.ref l0] h (some (.int r0)) h0) (q1 : X.1[l0]? = some (.inr 10)) (q2 : ¬ (r0 = (0 : Int32))) (q3 : xm_V X P d 239 [.long l1.toInt64] h0 (some (.int r1)) h1) (q4 : ¬ (r1 = (0 : Int32))) (q5 : xm_V X P d 218 [.ref l0] h1 (some (.int r2)) h2) (q6 : xm_V X P d 223 [.ref l0, .int r2, .int l1] h2 (some (.int r3)) h3) (q7 : ¬ (r3 = (-1 : Int32))) : xm_E X P d co_X11_can 0 [some (.ref l0), some (.int l1)] [] h (some (.int (1 : Int32))) h3 := by
  refine xm_E_s r_X11_can_0 rfl rfl ?_
  refine xm_E_cv [.ref l0] [] r_X11_can_1 rfl rfl (Nat.le_of_ble_eq_true rfl) (xm_rc q1 (by decide)) rfl q0 ?_
  refine xm_E_s r_X11_can_2 rfl rfl ?_
  refine xm_E_f q2 ?_
  refine xm_E_s r_X11_can_3 rfl rfl ?_
  refine xm_E_s r_X11_can_4 rfl rfl ?_
  refine xm_E_cs [.long l1.toInt64] [] r_X11_can_5 rfl rfl rfl (Nat.le_of_ble_eq_true rfl) rfl q3 ?_
  refine xm_E_s r_X11_can_6 rfl rfl ?_
  refine xm_E_f q4 ?_
  refine xm_E_s r_X11_can_9 rfl rfl ?_
  refine xm_E_s r_X11_can_10 rfl rfl ?_
  refine xm_E_cv [.ref l0] [.ref l0] r_X11_can_11 rfl rfl (Nat.le_of_ble_eq_true rfl) (xm_rc q1 (by decide)) rfl q5 ?_
  refine xm_E_s r_X11_can_12 rfl rfl ?_
  refine xm_E_cv [.ref l0, .int r2, .int l1] [] r_X11_can_13 rfl rfl (Nat.le_of_ble_eq_true rfl) (xm_rc q1 (by decide)) rfl q6 ?_
  refine xm_E_s r_X11_can_14 rfl rfl ?_
  refine xm_E_s r_X11_can_15 rfl rfl ?_
  refine xm_E_f q7 ?_
  refine xm_E_s r_X11_can_18 rfl rfl ?_
  exact xm_E_iret r_X11_can_19 rfl rfl
theorem r_X11_isMove_0 : co_X11_isMove[0]? = some ((0, .lload_n 0, 0, 0, 0, 0, 0, 0, []) : xm_I) := rfl
theorem r_X11_isMove_1 : co_X11_isMove[1]? = some ((1, .lconst 0, 0, 0, 0, 0, 0, 0, []) : xm_I) := rfl
theorem r_X11_isMove_2 : co_X11_isMove[2]? = some ((2, .ldc2_w 322, 1730, 0, 0, 0, 0, 9, []) : xm_I) := rfl
theorem r_X11_isMove_3 : co_X11_isMove[3]? = some ((5, .invokestatic 84, 1503, 191, 3, 0, 0, 0, []) : xm_I) := rfl
theorem r_X11_isMove_4 : co_X11_isMove[4]? = some ((8, .ireturn, 0, 0, 0, 3, 0, 0, []) : xm_I) := rfl
theorem p_X11_isMove_0_0 {X : xm_X} {P : List xm_M} {d : Nat} {h : xm_H} {l0 : Int64} {h0 : xm_H} {r0 : Int32} (q0 : xm_V X P d 191 [.long l0, .long (0 : Int64), .long (9 : Int64)] h (some (.int r0)) h0) (q1 : xm_okr 3 r0 = true) : xm_E X P d co_X11_isMove 0 [some (.long l0), none] [] h (some (.int r0)) h0 := by
  refine xm_E_s r_X11_isMove_0 rfl rfl ?_
  refine xm_E_s r_X11_isMove_1 rfl rfl ?_
  refine xm_E_s r_X11_isMove_2 rfl rfl ?_
  refine xm_E_cs [.long l0, .long (0 : Int64), .long (9 : Int64)] [] r_X11_isMove_3 rfl rfl rfl (Nat.le_of_ble_eq_true rfl) rfl q0 ?_
  exact xm_E_iret r_X11_isMove_4 rfl q1
theorem r_X11_moves_0 : co_X11_moves[0]? = some ((0, .aload_n 0, 0, 0, 0, 0, 0, 0, []) : xm_I) := rfl
theorem r_X11_moves_1 : co_X11_moves[1]? = some ((1, .invokevirtual 324, 1643, 216, 1, 10, 0, 0, []) : xm_I) := rfl
theorem r_X11_moves_2 : co_X11_moves[2]? = some ((4, .ifCond .ne 6, 0, 0, 5, 0, 0, 0, []) : xm_I) := rfl
theorem r_X11_moves_3 : co_X11_moves[3]? = some ((7, .bipush (-2), 0, 0, 0, 0, (-2), 0, []) : xm_I) := rfl
theorem r_X11_moves_4 : co_X11_moves[4]? = some ((9, .ireturn, 0, 0, 0, 0, 0, 0, []) : xm_I) := rfl
theorem r_X11_moves_5 : co_X11_moves[5]? = some ((10, .aload_n 0, 0, 0, 0, 0, 0, 0, []) : xm_I) := rfl
theorem r_X11_moves_6 : co_X11_moves[6]? = some ((11, .invokevirtual 331, 1651, 218, 1, 10, 0, 0, []) : xm_I) := rfl
theorem r_X11_moves_7 : co_X11_moves[7]? = some ((14, .istore_n 1, 0, 0, 0, 0, 0, 0, []) : xm_I) := rfl
theorem r_X11_moves_8 : co_X11_moves[8]? = some ((15, .iconst 0, 0, 0, 0, 0, 0, 0, []) : xm_I) := rfl
theorem r_X11_moves_9 : co_X11_moves[9]? = some ((16, .istore_n 2, 0, 0, 0, 0, 0, 0, []) : xm_I) := rfl
theorem r_X11_moves_10 : co_X11_moves[10]? = some ((17, .iconst 0, 0, 0, 0, 0, 0, 0, []) : xm_I) := rfl
theorem r_X11_moves_11 : co_X11_moves[11]? = some ((18, .istore_n 3, 0, 0, 0, 0, 0, 0, []) : xm_I) := rfl
theorem r_X11_moves_12 : co_X11_moves[12]? = some ((19, .iload_n 3, 0, 0, 0, 0, 0, 0, []) : xm_I) := rfl
theorem r_X11_moves_13 : co_X11_moves[13]? = some ((20, .bipush 10, 0, 0, 0, 0, 10, 0, []) : xm_I) := rfl
theorem r_X11_moves_14 : co_X11_moves[14]? = some ((22, .if_icmp .ge 29, 0, 0, 31, 0, 0, 0, []) : xm_I) := rfl
theorem r_X11_moves_15 : co_X11_moves[15]? = some ((25, .iload_n 2, 0, 0, 0, 0, 0, 0, []) : xm_I) := rfl
theorem r_X11_moves_16 : co_X11_moves[16]? = some ((26, .aload_n 0, 0, 0, 0, 0, 0, 0, []) : xm_I) := rfl
theorem r_X11_moves_17 : co_X11_moves[17]? = some ((27, .iload_n 1, 0, 0, 0, 0, 0, 0, []) : xm_I) := rfl
theorem r_X11_moves_18 : co_X11_moves[18]? = some ((28, .iload_n 3, 0, 0, 0, 0, 0, 0, []) : xm_I) := rfl
theorem r_X11_moves_19 : co_X11_moves[19]? = some ((29, .invokevirtual 297, 1670, 223, 3, 10, 0, 0, []) : xm_I) := rfl
theorem r_X11_moves_20 : co_X11_moves[20]? = some ((32, .iconst (-1), 0, 0, 0, 0, (-1), 0, []) : xm_I) := rfl
theorem r_X11_moves_21 : co_X11_moves[21]? = some ((33, .if_icmp .ne 7, 0, 0, 24, 0, 0, 0, []) : xm_I) := rfl
theorem r_X11_moves_22 : co_X11_moves[22]? = some ((36, .iconst 0, 0, 0, 0, 0, 0, 0, []) : xm_I) := rfl
theorem r_X11_moves_23 : co_X11_moves[23]? = some ((37, .goto 6, 0, 0, 27, 0, 0, 0, []) : xm_I) := rfl
theorem r_X11_moves_24 : co_X11_moves[24]? = some ((40, .iconst 1, 0, 0, 0, 0, 1, 0, []) : xm_I) := rfl
theorem r_X11_moves_25 : co_X11_moves[25]? = some ((41, .iload_n 3, 0, 0, 0, 0, 0, 0, []) : xm_I) := rfl
theorem r_X11_moves_26 : co_X11_moves[26]? = some ((42, .ishl, 0, 0, 0, 0, 0, 0, []) : xm_I) := rfl
theorem r_X11_moves_27 : co_X11_moves[27]? = some ((43, .ior, 0, 0, 0, 0, 0, 0, []) : xm_I) := rfl
theorem r_X11_moves_28 : co_X11_moves[28]? = some ((44, .istore_n 2, 0, 0, 0, 0, 0, 0, []) : xm_I) := rfl
theorem r_X11_moves_29 : co_X11_moves[29]? = some ((45, .iinc 3 1, 0, 0, 0, 0, 1, 0, []) : xm_I) := rfl
theorem r_X11_moves_30 : co_X11_moves[30]? = some ((48, .goto (-29), 0, 0, 12, 0, 0, 0, []) : xm_I) := rfl
theorem r_X11_moves_31 : co_X11_moves[31]? = some ((51, .iload_n 2, 0, 0, 0, 0, 0, 0, []) : xm_I) := rfl
theorem r_X11_moves_32 : co_X11_moves[32]? = some ((52, .ireturn, 0, 0, 0, 0, 0, 0, []) : xm_I) := rfl
theorem p_X11_moves_0_0 {X : xm_X} {P : List xm_M} {d : Nat} {h : xm_H} {l0 : Nat} {h0 : xm_H} {r0 : Int32} (q0 : xm_V X P d 216 [.ref l0] h (some (.int r0)) h0) (q1 : X.1[l0]? = some (.inr 10)) (q2 : r0 = (0 : Int32)) : xm_E X P d co_X11_moves 0 [some (.ref l0), none, none, none] [] h (some (.int (-2 : Int32))) h0 := by
  refine xm_E_s r_X11_moves_0 rfl rfl ?_
  refine xm_E_cv [.ref l0] [] r_X11_moves_1 rfl rfl (Nat.le_of_ble_eq_true rfl) (xm_rc q1 (by decide)) rfl q0 ?_
  refine xm_E_s r_X11_moves_2 rfl rfl ?_
  refine xm_E_t q2 ?_
  refine xm_E_s r_X11_moves_3 rfl rfl ?_
  exact xm_E_iret r_X11_moves_4 rfl rfl
theorem p_X11_moves_0_1 {X : xm_X} {P : List xm_M} {d : Nat} {h : xm_H} {l0 : Nat} {h0 : xm_H} {r0 : Int32} {h1 : xm_H} {r1 : Int32} {ro : Option Value} {ho : xm_H} (q0 : xm_V X P d 216 [.ref l0] h (some (.int r0)) h0) (q1 : X.1[l0]? = some (.inr 10)) (q2 : ¬ (r0 = (0 : Int32))) (q3 : xm_V X P d 218 [.ref l0] h0 (some (.int r1)) h1) (K : xm_E X P d co_X11_moves 12 [some (.ref l0), some (.int r1), some (.int (0 : Int32)), some (.int (0 : Int32))] [] h1 ro ho) : xm_E X P d co_X11_moves 0 [some (.ref l0), none, none, none] [] h ro ho := by
  refine xm_E_s r_X11_moves_0 rfl rfl ?_
  refine xm_E_cv [.ref l0] [] r_X11_moves_1 rfl rfl (Nat.le_of_ble_eq_true rfl) (xm_rc q1 (by decide)) rfl q0 ?_
  refine xm_E_s r_X11_moves_2 rfl rfl ?_
  refine xm_E_f q2 ?_
  refine xm_E_s r_X11_moves_5 rfl rfl ?_
  refine xm_E_cv [.ref l0] [] r_X11_moves_6 rfl rfl (Nat.le_of_ble_eq_true rfl) (xm_rc q1 (by decide)) rfl q3 ?_
  refine xm_E_s (ls1 := [some (.ref l0), some (.int r1), none, none]) r_X11_moves_7 rfl rfl ?_
  refine xm_E_s r_X11_moves_8 rfl rfl ?_
  refine xm_E_s (ls1 := [some (.ref l0), some (.int r1), some (.int (0 : Int32)), none]) r_X11_moves_9 rfl rfl ?_
  refine xm_E_s r_X11_moves_10 rfl rfl ?_
  refine xm_E_s (ls1 := [some (.ref l0), some (.int r1), some (.int (0 : Int32)), some (.int (0 : Int32))]) r_X11_moves_11 rfl rfl ?_
  exact K
theorem p_X11_moves_12_0 {X : xm_X} {P : List xm_M} {d : Nat} {h : xm_H} {l0 : Nat} {l1 : Int32} {l2 : Int32} {l3 : Int32} (q0 : (10 : Int32) ≤ l3) : xm_E X P d co_X11_moves 12 [some (.ref l0), some (.int l1), some (.int l2), some (.int l3)] [] h (some (.int l2)) h := by
  refine xm_E_s r_X11_moves_12 rfl rfl ?_
  refine xm_E_s r_X11_moves_13 rfl rfl ?_
  refine xm_E_s r_X11_moves_14 rfl rfl ?_
  refine xm_E_t q0 ?_
  refine xm_E_s r_X11_moves_31 rfl rfl ?_
  exact xm_E_iret r_X11_moves_32 rfl rfl
theorem p_X11_moves_12_1 {X : xm_X} {P : List xm_M} {d : Nat} {h : xm_H} {l0 : Nat} {l1 : Int32} {l2 : Int32} {l3 : Int32} {h0 : xm_H} {r0 : Int32} {ro : Option Value} {ho : xm_H} (q0 : ¬ ((10 : Int32) ≤ l3)) (q1 : xm_V X P d 223 [.ref l0, .int l1, .int l3] h (some (.int r0)) h0) (q2 : X.1[l0]? = some (.inr 10)) (q3 : r0 = (-1 : Int32)) (K : xm_E X P d co_X11_moves 12 [some (.ref l0), some (.int l1), some (.int (l2 ||| (0 : Int32))), some (.int (l3 + (1 : Int32)))] [] h0 ro ho) : xm_E X P d co_X11_moves 12 [some (.ref l0), some (.int l1), some (.int l2), some (.int l3)] [] h ro ho := by
  refine xm_E_s r_X11_moves_12 rfl rfl ?_
  refine xm_E_s r_X11_moves_13 rfl rfl ?_
  refine xm_E_s r_X11_moves_14 rfl rfl ?_
  refine xm_E_f q0 ?_
  refine xm_E_s r_X11_moves_15 rfl rfl ?_
  refine xm_E_s r_X11_moves_16 rfl rfl ?_
  refine xm_E_s r_X11_moves_17 rfl rfl ?_
  refine xm_E_s r_X11_moves_18 rfl rfl ?_
  refine xm_E_cv [.ref l0, .int l1, .int l3] [.int l2] r_X11_moves_19 rfl rfl (Nat.le_of_ble_eq_true rfl) (xm_rc q2 (by decide)) rfl q1 ?_
  refine xm_E_s r_X11_moves_20 rfl rfl ?_
  refine xm_E_s r_X11_moves_21 rfl rfl ?_
  refine xm_E_t q3 ?_
  refine xm_E_s r_X11_moves_22 rfl rfl ?_
  refine xm_E_s r_X11_moves_23 rfl rfl ?_
  refine xm_E_s r_X11_moves_27 rfl rfl ?_
  refine xm_E_s (ls1 := [some (.ref l0), some (.int l1), some (.int (l2 ||| (0 : Int32))), some (.int l3)]) r_X11_moves_28 rfl rfl ?_
  refine xm_E_s (ls1 := [some (.ref l0), some (.int l1), some (.int (l2 ||| (0 : Int32))), some (.int (l3 + (1 : Int32)))]) r_X11_moves_29 rfl rfl ?_
  refine xm_E_s r_X11_moves_30 rfl rfl ?_
  exact K
theorem p_X11_moves_12_2 {X : xm_X} {P : List xm_M} {d : Nat} {h : xm_H} {l0 : Nat} {l1 : Int32} {l2 : Int32} {l3 : Int32} {h0 : xm_H} {r0 : Int32} {ro : Option Value} {ho : xm_H} (q0 : ¬ ((10 : Int32) ≤ l3)) (q1 : xm_V X P d 223 [.ref l0, .int l1, .int l3] h (some (.int r0)) h0) (q2 : X.1[l0]? = some (.inr 10)) (q3 : ¬ (r0 = (-1 : Int32))) (K : xm_E X P d co_X11_moves 12 [some (.ref l0), some (.int l1), some (.int (l2 ||| ((1 : Int32) <<< (l3 &&& 31)))), some (.int (l3 + (1 : Int32)))] [] h0 ro ho) : xm_E X P d co_X11_moves 12 [some (.ref l0), some (.int l1), some (.int l2), some (.int l3)] [] h ro ho := by
  refine xm_E_s r_X11_moves_12 rfl rfl ?_
  refine xm_E_s r_X11_moves_13 rfl rfl ?_
  refine xm_E_s r_X11_moves_14 rfl rfl ?_
  refine xm_E_f q0 ?_
  refine xm_E_s r_X11_moves_15 rfl rfl ?_
  refine xm_E_s r_X11_moves_16 rfl rfl ?_
  refine xm_E_s r_X11_moves_17 rfl rfl ?_
  refine xm_E_s r_X11_moves_18 rfl rfl ?_
  refine xm_E_cv [.ref l0, .int l1, .int l3] [.int l2] r_X11_moves_19 rfl rfl (Nat.le_of_ble_eq_true rfl) (xm_rc q2 (by decide)) rfl q1 ?_
  refine xm_E_s r_X11_moves_20 rfl rfl ?_
  refine xm_E_s r_X11_moves_21 rfl rfl ?_
  refine xm_E_f q3 ?_
  refine xm_E_s r_X11_moves_24 rfl rfl ?_
  refine xm_E_s r_X11_moves_25 rfl rfl ?_
  refine xm_E_s r_X11_moves_26 rfl rfl ?_
  refine xm_E_s r_X11_moves_27 rfl rfl ?_
  refine xm_E_s (ls1 := [some (.ref l0), some (.int l1), some (.int (l2 ||| ((1 : Int32) <<< (l3 &&& 31)))), some (.int l3)]) r_X11_moves_28 rfl rfl ?_
  refine xm_E_s (ls1 := [some (.ref l0), some (.int l1), some (.int (l2 ||| ((1 : Int32) <<< (l3 &&& 31)))), some (.int (l3 + (1 : Int32)))]) r_X11_moves_29 rfl rfl ?_
  refine xm_E_s r_X11_moves_30 rfl rfl ?_
  exact K
theorem r_X11_fold_0 : co_X11_fold[0]? = some ((0, .aload_n 0, 0, 0, 0, 0, 0, 0, []) : xm_I) := rfl
theorem r_X11_fold_1 : co_X11_fold[1]? = some ((1, .invokevirtual 324, 1643, 216, 1, 10, 0, 0, []) : xm_I) := rfl
theorem r_X11_fold_2 : co_X11_fold[2]? = some ((4, .ifCond .eq 11, 0, 0, 7, 0, 0, 0, []) : xm_I) := rfl
theorem r_X11_fold_3 : co_X11_fold[3]? = some ((7, .iload_n 1, 0, 0, 0, 0, 0, 0, []) : xm_I) := rfl
theorem r_X11_fold_4 : co_X11_fold[4]? = some ((8, .i2l, 0, 0, 0, 0, 0, 0, []) : xm_I) := rfl
theorem r_X11_fold_5 : co_X11_fold[5]? = some ((9, .invokestatic 340, 1727, 239, 1, 0, 0, 0, []) : xm_I) := rfl
theorem r_X11_fold_6 : co_X11_fold[6]? = some ((12, .ifCond .ne 6, 0, 0, 9, 0, 0, 0, []) : xm_I) := rfl
theorem r_X11_fold_7 : co_X11_fold[7]? = some ((15, .bipush (-2), 0, 0, 0, 0, (-2), 0, []) : xm_I) := rfl
theorem r_X11_fold_8 : co_X11_fold[8]? = some ((17, .ireturn, 0, 0, 0, 0, 0, 0, []) : xm_I) := rfl
theorem r_X11_fold_9 : co_X11_fold[9]? = some ((18, .aload_n 0, 0, 0, 0, 0, 0, 0, []) : xm_I) := rfl
theorem r_X11_fold_10 : co_X11_fold[10]? = some ((19, .iload_n 1, 0, 0, 0, 0, 0, 0, []) : xm_I) := rfl
theorem r_X11_fold_11 : co_X11_fold[11]? = some ((20, .invokevirtual 344, 1739, 242, 2, 10, 0, 0, []) : xm_I) := rfl
theorem r_X11_fold_12 : co_X11_fold[12]? = some ((23, .ifCond .eq 11, 0, 0, 17, 0, 0, 0, []) : xm_I) := rfl
theorem r_X11_fold_13 : co_X11_fold[13]? = some ((26, .aload_n 0, 0, 0, 0, 0, 0, 0, []) : xm_I) := rfl
theorem r_X11_fold_14 : co_X11_fold[14]? = some ((27, .iload_n 1, 0, 0, 0, 0, 0, 0, []) : xm_I) := rfl
theorem r_X11_fold_15 : co_X11_fold[15]? = some ((28, .invokevirtual 302, 1708, 234, 2, 10, 0, 0, []) : xm_I) := rfl
theorem r_X11_fold_16 : co_X11_fold[16]? = some ((31, .goto 5, 0, 0, 18, 0, 0, 0, []) : xm_I) := rfl
theorem r_X11_fold_17 : co_X11_fold[17]? = some ((34, .bipush (-5), 0, 0, 0, 0, (-5), 0, []) : xm_I) := rfl
theorem r_X11_fold_18 : co_X11_fold[18]? = some ((36, .ireturn, 0, 0, 0, 0, 0, 0, []) : xm_I) := rfl
theorem p_X11_fold_0_0 {X : xm_X} {P : List xm_M} {d : Nat} {h : xm_H} {l0 : Nat} {l1 : Int32} {h0 : xm_H} {r0 : Int32} (q0 : xm_V X P d 216 [.ref l0] h (some (.int r0)) h0) (q1 : X.1[l0]? = some (.inr 10)) (q2 : r0 = (0 : Int32)) : xm_E X P d co_X11_fold 0 [some (.ref l0), some (.int l1)] [] h (some (.int (-2 : Int32))) h0 := by
  refine xm_E_s r_X11_fold_0 rfl rfl ?_
  refine xm_E_cv [.ref l0] [] r_X11_fold_1 rfl rfl (Nat.le_of_ble_eq_true rfl) (xm_rc q1 (by decide)) rfl q0 ?_
  refine xm_E_s r_X11_fold_2 rfl rfl ?_
  refine xm_E_t q2 ?_
  refine xm_E_s r_X11_fold_7 rfl rfl ?_
  exact xm_E_iret r_X11_fold_8 rfl rfl
theorem p_X11_fold_0_1 {X : xm_X} {P : List xm_M} {d : Nat} {h : xm_H} {l0 : Nat} {l1 : Int32} {h0 : xm_H} {r0 : Int32} {h1 : xm_H} {r1 : Int32} (q0 : xm_V X P d 216 [.ref l0] h (some (.int r0)) h0) (q1 : X.1[l0]? = some (.inr 10)) (q2 : ¬ (r0 = (0 : Int32))) (q3 : xm_V X P d 239 [.long l1.toInt64] h0 (some (.int r1)) h1) (q4 : r1 = (0 : Int32)) : xm_E X P d co_X11_fold 0 [some (.ref l0), some (.int l1)] [] h (some (.int (-2 : Int32))) h1 := by
  refine xm_E_s r_X11_fold_0 rfl rfl ?_
  refine xm_E_cv [.ref l0] [] r_X11_fold_1 rfl rfl (Nat.le_of_ble_eq_true rfl) (xm_rc q1 (by decide)) rfl q0 ?_
  refine xm_E_s r_X11_fold_2 rfl rfl ?_
  refine xm_E_f q2 ?_
  refine xm_E_s r_X11_fold_3 rfl rfl ?_
  refine xm_E_s r_X11_fold_4 rfl rfl ?_
  refine xm_E_cs [.long l1.toInt64] [] r_X11_fold_5 rfl rfl rfl (Nat.le_of_ble_eq_true rfl) rfl q3 ?_
  refine xm_E_s r_X11_fold_6 rfl rfl ?_
  refine xm_E_t q4 ?_
  refine xm_E_s r_X11_fold_7 rfl rfl ?_
  exact xm_E_iret r_X11_fold_8 rfl rfl
theorem p_X11_fold_0_2 {X : xm_X} {P : List xm_M} {d : Nat} {h : xm_H} {l0 : Nat} {l1 : Int32} {h0 : xm_H} {r0 : Int32} {h1 : xm_H} {r1 : Int32} {h2 : xm_H} {r2 : Int32} (q0 : xm_V X P d 216 [.ref l0] h (some (.int r0)) h0) (q1 : X.1[l0]? = some (.inr 10)) (q2 : ¬ (r0 = (0 : Int32))) (q3 : xm_V X P d 239 [.long l1.toInt64] h0 (some (.int r1)) h1) (q4 : ¬ (r1 = (0 : Int32))) (q5 : xm_V X P d 242 [.ref l0, .int l1] h1 (some (.int r2)) h2) (q6 : r2 = (0 : Int32)) : xm_E X P d co_X11_fold 0 [some (.ref l0), some (.int l1)] [] h (some (.int (-5 : Int32))) h2 := by
  refine xm_E_s r_X11_fold_0 rfl rfl ?_
  refine xm_E_cv [.ref l0] [] r_X11_fold_1 rfl rfl (Nat.le_of_ble_eq_true rfl) (xm_rc q1 (by decide)) rfl q0 ?_
  refine xm_E_s r_X11_fold_2 rfl rfl ?_
  refine xm_E_f q2 ?_
  refine xm_E_s r_X11_fold_3 rfl rfl ?_
  refine xm_E_s r_X11_fold_4 rfl rfl ?_
  refine xm_E_cs [.long l1.toInt64] [] r_X11_fold_5 rfl rfl rfl (Nat.le_of_ble_eq_true rfl) rfl q3 ?_
  refine xm_E_s r_X11_fold_6 rfl rfl ?_
  refine xm_E_f q4 ?_
  refine xm_E_s r_X11_fold_9 rfl rfl ?_
  refine xm_E_s r_X11_fold_10 rfl rfl ?_
  refine xm_E_cv [.ref l0, .int l1] [] r_X11_fold_11 rfl rfl (Nat.le_of_ble_eq_true rfl) (xm_rc q1 (by decide)) rfl q5 ?_
  refine xm_E_s r_X11_fold_12 rfl rfl ?_
  refine xm_E_t q6 ?_
  refine xm_E_s r_X11_fold_17 rfl rfl ?_
  exact xm_E_iret r_X11_fold_18 rfl rfl
theorem p_X11_fold_0_3 {X : xm_X} {P : List xm_M} {d : Nat} {h : xm_H} {l0 : Nat} {l1 : Int32} {h0 : xm_H} {r0 : Int32} {h1 : xm_H} {r1 : Int32} {h2 : xm_H} {r2 : Int32} {h3 : xm_H} {r3 : Int32} (q0 : xm_V X P d 216 [.ref l0] h (some (.int r0)) h0) (q1 : X.1[l0]? = some (.inr 10)) (q2 : ¬ (r0 = (0 : Int32))) (q3 : xm_V X P d 239 [.long l1.toInt64] h0 (some (.int r1)) h1) (q4 : ¬ (r1 = (0 : Int32))) (q5 : xm_V X P d 242 [.ref l0, .int l1] h1 (some (.int r2)) h2) (q6 : ¬ (r2 = (0 : Int32))) (q7 : xm_V X P d 234 [.ref l0, .int l1] h2 (some (.int r3)) h3) : xm_E X P d co_X11_fold 0 [some (.ref l0), some (.int l1)] [] h (some (.int r3)) h3 := by
  refine xm_E_s r_X11_fold_0 rfl rfl ?_
  refine xm_E_cv [.ref l0] [] r_X11_fold_1 rfl rfl (Nat.le_of_ble_eq_true rfl) (xm_rc q1 (by decide)) rfl q0 ?_
  refine xm_E_s r_X11_fold_2 rfl rfl ?_
  refine xm_E_f q2 ?_
  refine xm_E_s r_X11_fold_3 rfl rfl ?_
  refine xm_E_s r_X11_fold_4 rfl rfl ?_
  refine xm_E_cs [.long l1.toInt64] [] r_X11_fold_5 rfl rfl rfl (Nat.le_of_ble_eq_true rfl) rfl q3 ?_
  refine xm_E_s r_X11_fold_6 rfl rfl ?_
  refine xm_E_f q4 ?_
  refine xm_E_s r_X11_fold_9 rfl rfl ?_
  refine xm_E_s r_X11_fold_10 rfl rfl ?_
  refine xm_E_cv [.ref l0, .int l1] [] r_X11_fold_11 rfl rfl (Nat.le_of_ble_eq_true rfl) (xm_rc q1 (by decide)) rfl q5 ?_
  refine xm_E_s r_X11_fold_12 rfl rfl ?_
  refine xm_E_f q6 ?_
  refine xm_E_s r_X11_fold_13 rfl rfl ?_
  refine xm_E_s r_X11_fold_14 rfl rfl ?_
  refine xm_E_cv [.ref l0, .int l1] [] r_X11_fold_15 rfl rfl (Nat.le_of_ble_eq_true rfl) (xm_rc q1 (by decide)) rfl q7 ?_
  refine xm_E_s r_X11_fold_16 rfl rfl ?_
  exact xm_E_iret r_X11_fold_18 rfl rfl
theorem r_X11_does_0 : co_X11_does[0]? = some ((0, .aload_n 0, 0, 0, 0, 0, 0, 0, []) : xm_I) := rfl
theorem r_X11_does_1 : co_X11_does[1]? = some ((1, .getfield 9, 1381, 10, 1, 2, 0, 0, []) : xm_I) := rfl
theorem r_X11_does_2 : co_X11_does[2]? = some ((4, .bipush 23, 0, 0, 0, 0, 23, 0, []) : xm_I) := rfl
theorem r_X11_does_3 : co_X11_does[3]? = some ((6, .iaload, 0, 0, 0, 0, 0, 0, []) : xm_I) := rfl
theorem r_X11_does_4 : co_X11_does[4]? = some ((7, .bipush 60, 0, 0, 0, 0, 60, 0, []) : xm_I) := rfl
theorem r_X11_does_5 : co_X11_does[5]? = some ((9, .if_icmp .eq 16, 0, 0, 13, 0, 0, 0, []) : xm_I) := rfl
theorem r_X11_does_6 : co_X11_does[6]? = some ((12, .aload_n 0, 0, 0, 0, 0, 0, 0, []) : xm_I) := rfl
theorem r_X11_does_7 : co_X11_does[7]? = some ((13, .aload_n 0, 0, 0, 0, 0, 0, 0, []) : xm_I) := rfl
theorem r_X11_does_8 : co_X11_does[8]? = some ((14, .invokevirtual 331, 1651, 218, 1, 10, 0, 0, []) : xm_I) := rfl
theorem r_X11_does_9 : co_X11_does[9]? = some ((17, .iload_n 1, 0, 0, 0, 0, 0, 0, []) : xm_I) := rfl
theorem r_X11_does_10 : co_X11_does[10]? = some ((18, .invokevirtual 311, 1666, 222, 3, 10, 0, 0, []) : xm_I) := rfl
theorem r_X11_does_11 : co_X11_does[11]? = some ((21, .iconst (-1), 0, 0, 0, 0, (-1), 0, []) : xm_I) := rfl
theorem r_X11_does_12 : co_X11_does[12]? = some ((22, .if_icmp .ne 5, 0, 0, 15, 0, 0, 0, []) : xm_I) := rfl
theorem r_X11_does_13 : co_X11_does[13]? = some ((25, .iconst 0, 0, 0, 0, 0, 0, 0, []) : xm_I) := rfl
theorem r_X11_does_14 : co_X11_does[14]? = some ((26, .ireturn, 0, 0, 0, 3, 0, 0, []) : xm_I) := rfl
theorem r_X11_does_15 : co_X11_does[15]? = some ((27, .aload_n 0, 0, 0, 0, 0, 0, 0, []) : xm_I) := rfl
theorem r_X11_does_16 : co_X11_does[16]? = some ((28, .getfield 9, 1381, 10, 1, 2, 0, 0, []) : xm_I) := rfl
theorem r_X11_does_17 : co_X11_does[17]? = some ((31, .bipush 50, 0, 0, 0, 0, 50, 0, []) : xm_I) := rfl
theorem r_X11_does_18 : co_X11_does[18]? = some ((33, .aload_n 0, 0, 0, 0, 0, 0, 0, []) : xm_I) := rfl
theorem r_X11_does_19 : co_X11_does[19]? = some ((34, .getfield 9, 1381, 10, 1, 2, 0, 0, []) : xm_I) := rfl
theorem r_X11_does_20 : co_X11_does[20]? = some ((37, .bipush 23, 0, 0, 0, 0, 23, 0, []) : xm_I) := rfl
theorem r_X11_does_21 : co_X11_does[21]? = some ((39, .iaload, 0, 0, 0, 0, 0, 0, []) : xm_I) := rfl
theorem r_X11_does_22 : co_X11_does[22]? = some ((40, .iadd, 0, 0, 0, 0, 0, 0, []) : xm_I) := rfl
theorem r_X11_does_23 : co_X11_does[23]? = some ((41, .iload_n 1, 0, 0, 0, 0, 0, 0, []) : xm_I) := rfl
theorem r_X11_does_24 : co_X11_does[24]? = some ((42, .iastore, 0, 0, 0, 0, 0, 0, []) : xm_I) := rfl
theorem r_X11_does_25 : co_X11_does[25]? = some ((43, .aload_n 0, 0, 0, 0, 0, 0, 0, []) : xm_I) := rfl
theorem r_X11_does_26 : co_X11_does[26]? = some ((44, .getfield 9, 1381, 10, 1, 2, 0, 0, []) : xm_I) := rfl
theorem r_X11_does_27 : co_X11_does[27]? = some ((47, .bipush 23, 0, 0, 0, 0, 23, 0, []) : xm_I) := rfl
theorem r_X11_does_28 : co_X11_does[28]? = some ((49, .dup2, 0, 0, 0, 0, 0, 0, []) : xm_I) := rfl
theorem r_X11_does_29 : co_X11_does[29]? = some ((50, .iaload, 0, 0, 0, 0, 0, 0, []) : xm_I) := rfl
theorem r_X11_does_30 : co_X11_does[30]? = some ((51, .iconst 1, 0, 0, 0, 0, 1, 0, []) : xm_I) := rfl
theorem r_X11_does_31 : co_X11_does[31]? = some ((52, .iadd, 0, 0, 0, 0, 0, 0, []) : xm_I) := rfl
theorem r_X11_does_32 : co_X11_does[32]? = some ((53, .iastore, 0, 0, 0, 0, 0, 0, []) : xm_I) := rfl
theorem r_X11_does_33 : co_X11_does[33]? = some ((54, .iconst 1, 0, 0, 0, 0, 1, 0, []) : xm_I) := rfl
theorem r_X11_does_34 : co_X11_does[34]? = some ((55, .ireturn, 0, 0, 0, 3, 0, 0, []) : xm_I) := rfl
theorem p_X11_does_0_0 {X : xm_X} {P : List xm_M} {d : Nat} {h : xm_H} {l0 : Nat} {l1 : Int32} {v0 : Nat} {n1 : Nat} (q0 : X.1[l0]? = some (.inr 10)) (q1 : h.2.2 l0 1 = some v0) (q2 : X.1[v0]? = some (.inl (0, n1))) (q3 : 23 < n1) (q4 : h.1 v0 23 = (60 : Int32)) : xm_E X P d co_X11_does 0 [some (.ref l0), some (.int l1)] [] h (some (.int (0 : Int32))) h := by
  refine xm_E_s r_X11_does_0 rfl rfl ?_
  refine xm_E_s r_X11_does_1 rfl (xm_T_gr rfl q0 rfl rfl q1) ?_
  refine xm_E_s r_X11_does_2 rfl rfl ?_
  refine xm_E_s r_X11_does_3 rfl (xm_T_iald rfl q2 (by decide) (fun e => e.elim (fun e => absurd e (by decide)) (fun e => Nat.not_le.mpr q3 e))) ?_
  refine xm_E_s r_X11_does_4 rfl rfl ?_
  refine xm_E_s r_X11_does_5 rfl rfl ?_
  refine xm_E_t q4 ?_
  refine xm_E_s r_X11_does_13 rfl rfl ?_
  exact xm_E_iret r_X11_does_14 rfl rfl
theorem p_X11_does_0_1 {X : xm_X} {P : List xm_M} {d : Nat} {h : xm_H} {l0 : Nat} {l1 : Int32} {v0 : Nat} {n1 : Nat} {h2 : xm_H} {r2 : Int32} {h3 : xm_H} {r3 : Int32} (q0 : X.1[l0]? = some (.inr 10)) (q1 : h.2.2 l0 1 = some v0) (q2 : X.1[v0]? = some (.inl (0, n1))) (q3 : 23 < n1) (q4 : ¬ (h.1 v0 23 = (60 : Int32))) (q5 : xm_V X P d 218 [.ref l0] h (some (.int r2)) h2) (q6 : xm_V X P d 222 [.ref l0, .int r2, .int l1] h2 (some (.int r3)) h3) (q7 : r3 = (-1 : Int32)) : xm_E X P d co_X11_does 0 [some (.ref l0), some (.int l1)] [] h (some (.int (0 : Int32))) h3 := by
  refine xm_E_s r_X11_does_0 rfl rfl ?_
  refine xm_E_s r_X11_does_1 rfl (xm_T_gr rfl q0 rfl rfl q1) ?_
  refine xm_E_s r_X11_does_2 rfl rfl ?_
  refine xm_E_s r_X11_does_3 rfl (xm_T_iald rfl q2 (by decide) (fun e => e.elim (fun e => absurd e (by decide)) (fun e => Nat.not_le.mpr q3 e))) ?_
  refine xm_E_s r_X11_does_4 rfl rfl ?_
  refine xm_E_s r_X11_does_5 rfl rfl ?_
  refine xm_E_f q4 ?_
  refine xm_E_s r_X11_does_6 rfl rfl ?_
  refine xm_E_s r_X11_does_7 rfl rfl ?_
  refine xm_E_cv [.ref l0] [.ref l0] r_X11_does_8 rfl rfl (Nat.le_of_ble_eq_true rfl) (xm_rc q0 (by decide)) rfl q5 ?_
  refine xm_E_s r_X11_does_9 rfl rfl ?_
  refine xm_E_cv [.ref l0, .int r2, .int l1] [] r_X11_does_10 rfl rfl (Nat.le_of_ble_eq_true rfl) (xm_rc q0 (by decide)) rfl q6 ?_
  refine xm_E_s r_X11_does_11 rfl rfl ?_
  refine xm_E_s r_X11_does_12 rfl rfl ?_
  refine xm_E_t q7 ?_
  refine xm_E_s r_X11_does_13 rfl rfl ?_
  exact xm_E_iret r_X11_does_14 rfl rfl
theorem p_X11_does_0_2 {X : xm_X} {P : List xm_M} {d : Nat} {h : xm_H} {l0 : Nat} {l1 : Int32} {v0 : Nat} {n1 : Nat} {h2 : xm_H} {r2 : Int32} {h3 : xm_H} {r3 : Int32} {v4 : Nat} {n5 : Nat} {v6 : Nat} {n7 : Nat} (q0 : X.1[l0]? = some (.inr 10)) (q1 : h.2.2 l0 1 = some v0) (q2 : X.1[v0]? = some (.inl (0, n1))) (q3 : 23 < n1) (q4 : ¬ (h.1 v0 23 = (60 : Int32))) (q5 : xm_V X P d 218 [.ref l0] h (some (.int r2)) h2) (q6 : xm_V X P d 222 [.ref l0, .int r2, .int l1] h2 (some (.int r3)) h3) (q7 : ¬ (r3 = (-1 : Int32))) (q8 : h3.2.2 l0 1 = some v4) (q9 : X.1[v4]? = some (.inl (0, n5))) (q10 : 23 < n5) (q11 : ¬ ((50 : Int32) + (h3.1 v4 23) < 0 ∨ n5 ≤ ((50 : Int32) + (h3.1 v4 23)).toNatClampNeg)) (q12 : (xm_si h3 v4 (((50 : Int32) + (h3.1 v4 23)).toNatClampNeg) l1).2.2 l0 1 = some v6) (q13 : X.1[v6]? = some (.inl (0, n7))) (q14 : 23 < n7) : xm_E X P d co_X11_does 0 [some (.ref l0), some (.int l1)] [] h (some (.int (1 : Int32))) (xm_si (xm_si h3 v4 (((50 : Int32) + (h3.1 v4 23)).toNatClampNeg) l1) v6 23 (((xm_si h3 v4 (((50 : Int32) + (h3.1 v4 23)).toNatClampNeg) l1).1 v6 23) + (1 : Int32))) := by
  refine xm_E_s r_X11_does_0 rfl rfl ?_
  refine xm_E_s r_X11_does_1 rfl (xm_T_gr rfl q0 rfl rfl q1) ?_
  refine xm_E_s r_X11_does_2 rfl rfl ?_
  refine xm_E_s r_X11_does_3 rfl (xm_T_iald rfl q2 (by decide) (fun e => e.elim (fun e => absurd e (by decide)) (fun e => Nat.not_le.mpr q3 e))) ?_
  refine xm_E_s r_X11_does_4 rfl rfl ?_
  refine xm_E_s r_X11_does_5 rfl rfl ?_
  refine xm_E_f q4 ?_
  refine xm_E_s r_X11_does_6 rfl rfl ?_
  refine xm_E_s r_X11_does_7 rfl rfl ?_
  refine xm_E_cv [.ref l0] [.ref l0] r_X11_does_8 rfl rfl (Nat.le_of_ble_eq_true rfl) (xm_rc q0 (by decide)) rfl q5 ?_
  refine xm_E_s r_X11_does_9 rfl rfl ?_
  refine xm_E_cv [.ref l0, .int r2, .int l1] [] r_X11_does_10 rfl rfl (Nat.le_of_ble_eq_true rfl) (xm_rc q0 (by decide)) rfl q6 ?_
  refine xm_E_s r_X11_does_11 rfl rfl ?_
  refine xm_E_s r_X11_does_12 rfl rfl ?_
  refine xm_E_f q7 ?_
  refine xm_E_s r_X11_does_15 rfl rfl ?_
  refine xm_E_s r_X11_does_16 rfl (xm_T_gr rfl q0 rfl rfl q8) ?_
  refine xm_E_s r_X11_does_17 rfl rfl ?_
  refine xm_E_s r_X11_does_18 rfl rfl ?_
  refine xm_E_s r_X11_does_19 rfl (xm_T_gr rfl q0 rfl rfl q8) ?_
  refine xm_E_s r_X11_does_20 rfl rfl ?_
  refine xm_E_s r_X11_does_21 rfl (xm_T_iald rfl q9 (by decide) (fun e => e.elim (fun e => absurd e (by decide)) (fun e => Nat.not_le.mpr q10 e))) ?_
  refine xm_E_s r_X11_does_22 rfl rfl ?_
  refine xm_E_s r_X11_does_23 rfl rfl ?_
  refine xm_E_s r_X11_does_24 rfl (xm_T_asi rfl q9 q11) ?_
  refine xm_E_s r_X11_does_25 rfl rfl ?_
  refine xm_E_s r_X11_does_26 rfl (xm_T_gr rfl q0 rfl rfl q12) ?_
  refine xm_E_s r_X11_does_27 rfl rfl ?_
  refine xm_E_s r_X11_does_28 rfl rfl ?_
  refine xm_E_s r_X11_does_29 rfl (xm_T_iald rfl q13 (by decide) (fun e => e.elim (fun e => absurd e (by decide)) (fun e => Nat.not_le.mpr q14 e))) ?_
  refine xm_E_s r_X11_does_30 rfl rfl ?_
  refine xm_E_s r_X11_does_31 rfl rfl ?_
  refine xm_E_s r_X11_does_32 rfl (xm_T_asi rfl q13 (fun e => e.elim (fun e => absurd e (by decide)) (fun e => Nat.not_le.mpr q14 e))) ?_
  refine xm_E_s r_X11_does_33 rfl rfl ?_
  exact xm_E_iret r_X11_does_34 rfl rfl
theorem r_X11_call_0 : co_X11_call[0]? = some ((0, .aload_n 0, 0, 0, 0, 0, 0, 0, []) : xm_I) := rfl
theorem r_X11_call_1 : co_X11_call[1]? = some ((1, .iload_n 1, 0, 0, 0, 0, 0, 0, []) : xm_I) := rfl
theorem r_X11_call_2 : co_X11_call[2]? = some ((2, .i2l, 0, 0, 0, 0, 0, 0, []) : xm_I) := rfl
theorem r_X11_call_3 : co_X11_call[3]? = some ((3, .invokevirtual 347, 1747, 244, 2, 10, 0, 0, []) : xm_I) := rfl
theorem r_X11_call_4 : co_X11_call[4]? = some ((6, .ifCond .ne 6, 0, 0, 7, 0, 0, 0, []) : xm_I) := rfl
theorem r_X11_call_5 : co_X11_call[5]? = some ((9, .bipush (-2), 0, 0, 0, 0, (-2), 0, []) : xm_I) := rfl
theorem r_X11_call_6 : co_X11_call[6]? = some ((11, .ireturn, 0, 0, 0, 0, 0, 0, []) : xm_I) := rfl
theorem r_X11_call_7 : co_X11_call[7]? = some ((12, .aload_n 0, 0, 0, 0, 0, 0, 0, []) : xm_I) := rfl
theorem r_X11_call_8 : co_X11_call[8]? = some ((13, .iload_n 1, 0, 0, 0, 0, 0, 0, []) : xm_I) := rfl
theorem r_X11_call_9 : co_X11_call[9]? = some ((14, .invokevirtual 350, 1751, 245, 2, 10, 0, 0, []) : xm_I) := rfl
theorem r_X11_call_10 : co_X11_call[10]? = some ((17, .aload_n 0, 0, 0, 0, 0, 0, 0, []) : xm_I) := rfl
theorem r_X11_call_11 : co_X11_call[11]? = some ((18, .iload_n 1, 0, 0, 0, 0, 0, 0, []) : xm_I) := rfl
theorem r_X11_call_12 : co_X11_call[12]? = some ((19, .invokevirtual 352, 1755, 246, 2, 10, 0, 0, []) : xm_I) := rfl
theorem r_X11_call_13 : co_X11_call[13]? = some ((22, .invokestatic 354, 1759, 247, 2, 0, 0, 0, []) : xm_I) := rfl
theorem r_X11_call_14 : co_X11_call[14]? = some ((25, .istore_n 2, 0, 0, 0, 0, 0, 0, []) : xm_I) := rfl
theorem r_X11_call_15 : co_X11_call[15]? = some ((26, .aload_n 0, 0, 0, 0, 0, 0, 0, []) : xm_I) := rfl
theorem r_X11_call_16 : co_X11_call[16]? = some ((27, .iload_n 2, 0, 0, 0, 0, 0, 0, []) : xm_I) := rfl
theorem r_X11_call_17 : co_X11_call[17]? = some ((28, .invokevirtual 344, 1739, 242, 2, 10, 0, 0, []) : xm_I) := rfl
theorem r_X11_call_18 : co_X11_call[18]? = some ((31, .ifCond .eq 7, 0, 0, 21, 0, 0, 0, []) : xm_I) := rfl
theorem r_X11_call_19 : co_X11_call[19]? = some ((34, .iload_n 2, 0, 0, 0, 0, 0, 0, []) : xm_I) := rfl
theorem r_X11_call_20 : co_X11_call[20]? = some ((35, .goto 5, 0, 0, 22, 0, 0, 0, []) : xm_I) := rfl
theorem r_X11_call_21 : co_X11_call[21]? = some ((38, .bipush (-5), 0, 0, 0, 0, (-5), 0, []) : xm_I) := rfl
theorem r_X11_call_22 : co_X11_call[22]? = some ((40, .ireturn, 0, 0, 0, 0, 0, 0, []) : xm_I) := rfl
theorem p_X11_call_0_0 {X : xm_X} {P : List xm_M} {d : Nat} {h : xm_H} {l0 : Nat} {l1 : Int32} {h0 : xm_H} {r0 : Int32} (q0 : xm_V X P d 244 [.ref l0, .long l1.toInt64] h (some (.int r0)) h0) (q1 : X.1[l0]? = some (.inr 10)) (q2 : r0 = (0 : Int32)) : xm_E X P d co_X11_call 0 [some (.ref l0), some (.int l1), none] [] h (some (.int (-2 : Int32))) h0 := by
  refine xm_E_s r_X11_call_0 rfl rfl ?_
  refine xm_E_s r_X11_call_1 rfl rfl ?_
  refine xm_E_s r_X11_call_2 rfl rfl ?_
  refine xm_E_cv [.ref l0, .long l1.toInt64] [] r_X11_call_3 rfl rfl (Nat.le_of_ble_eq_true rfl) (xm_rc q1 (by decide)) rfl q0 ?_
  refine xm_E_s r_X11_call_4 rfl rfl ?_
  refine xm_E_t q2 ?_
  refine xm_E_s r_X11_call_5 rfl rfl ?_
  exact xm_E_iret r_X11_call_6 rfl rfl
theorem p_X11_call_0_1 {X : xm_X} {P : List xm_M} {d : Nat} {h : xm_H} {l0 : Nat} {l1 : Int32} {h0 : xm_H} {r0 : Int32} {h1 : xm_H} {r1 : Int32} {h2 : xm_H} {r2 : Int32} {h3 : xm_H} {r3 : Int32} {h4 : xm_H} {r4 : Int32} (q0 : xm_V X P d 244 [.ref l0, .long l1.toInt64] h (some (.int r0)) h0) (q1 : X.1[l0]? = some (.inr 10)) (q2 : ¬ (r0 = (0 : Int32))) (q3 : xm_V X P d 245 [.ref l0, .int l1] h0 (some (.int r1)) h1) (q4 : xm_V X P d 246 [.ref l0, .int l1] h1 (some (.int r2)) h2) (q5 : xm_V X P d 247 [.int r1, .int r2] h2 (some (.int r3)) h3) (q6 : xm_V X P d 242 [.ref l0, .int r3] h3 (some (.int r4)) h4) (q7 : r4 = (0 : Int32)) : xm_E X P d co_X11_call 0 [some (.ref l0), some (.int l1), none] [] h (some (.int (-5 : Int32))) h4 := by
  refine xm_E_s r_X11_call_0 rfl rfl ?_
  refine xm_E_s r_X11_call_1 rfl rfl ?_
  refine xm_E_s r_X11_call_2 rfl rfl ?_
  refine xm_E_cv [.ref l0, .long l1.toInt64] [] r_X11_call_3 rfl rfl (Nat.le_of_ble_eq_true rfl) (xm_rc q1 (by decide)) rfl q0 ?_
  refine xm_E_s r_X11_call_4 rfl rfl ?_
  refine xm_E_f q2 ?_
  refine xm_E_s r_X11_call_7 rfl rfl ?_
  refine xm_E_s r_X11_call_8 rfl rfl ?_
  refine xm_E_cv [.ref l0, .int l1] [] r_X11_call_9 rfl rfl (Nat.le_of_ble_eq_true rfl) (xm_rc q1 (by decide)) rfl q3 ?_
  refine xm_E_s r_X11_call_10 rfl rfl ?_
  refine xm_E_s r_X11_call_11 rfl rfl ?_
  refine xm_E_cv [.ref l0, .int l1] [.int r1] r_X11_call_12 rfl rfl (Nat.le_of_ble_eq_true rfl) (xm_rc q1 (by decide)) rfl q4 ?_
  refine xm_E_cs [.int r1, .int r2] [] r_X11_call_13 rfl rfl rfl (Nat.le_of_ble_eq_true rfl) rfl q5 ?_
  refine xm_E_s (ls1 := [some (.ref l0), some (.int l1), some (.int r3)]) r_X11_call_14 rfl rfl ?_
  refine xm_E_s r_X11_call_15 rfl rfl ?_
  refine xm_E_s r_X11_call_16 rfl rfl ?_
  refine xm_E_cv [.ref l0, .int r3] [] r_X11_call_17 rfl rfl (Nat.le_of_ble_eq_true rfl) (xm_rc q1 (by decide)) rfl q6 ?_
  refine xm_E_s r_X11_call_18 rfl rfl ?_
  refine xm_E_t q7 ?_
  refine xm_E_s r_X11_call_21 rfl rfl ?_
  exact xm_E_iret r_X11_call_22 rfl rfl
theorem p_X11_call_0_2 {X : xm_X} {P : List xm_M} {d : Nat} {h : xm_H} {l0 : Nat} {l1 : Int32} {h0 : xm_H} {r0 : Int32} {h1 : xm_H} {r1 : Int32} {h2 : xm_H} {r2 : Int32} {h3 : xm_H} {r3 : Int32} {h4 : xm_H} {r4 : Int32} (q0 : xm_V X P d 244 [.ref l0, .long l1.toInt64] h (some (.int r0)) h0) (q1 : X.1[l0]? = some (.inr 10)) (q2 : ¬ (r0 = (0 : Int32))) (q3 : xm_V X P d 245 [.ref l0, .int l1] h0 (some (.int r1)) h1) (q4 : xm_V X P d 246 [.ref l0, .int l1] h1 (some (.int r2)) h2) (q5 : xm_V X P d 247 [.int r1, .int r2] h2 (some (.int r3)) h3) (q6 : xm_V X P d 242 [.ref l0, .int r3] h3 (some (.int r4)) h4) (q7 : ¬ (r4 = (0 : Int32))) : xm_E X P d co_X11_call 0 [some (.ref l0), some (.int l1), none] [] h (some (.int r3)) h4 := by
  refine xm_E_s r_X11_call_0 rfl rfl ?_
  refine xm_E_s r_X11_call_1 rfl rfl ?_
  refine xm_E_s r_X11_call_2 rfl rfl ?_
  refine xm_E_cv [.ref l0, .long l1.toInt64] [] r_X11_call_3 rfl rfl (Nat.le_of_ble_eq_true rfl) (xm_rc q1 (by decide)) rfl q0 ?_
  refine xm_E_s r_X11_call_4 rfl rfl ?_
  refine xm_E_f q2 ?_
  refine xm_E_s r_X11_call_7 rfl rfl ?_
  refine xm_E_s r_X11_call_8 rfl rfl ?_
  refine xm_E_cv [.ref l0, .int l1] [] r_X11_call_9 rfl rfl (Nat.le_of_ble_eq_true rfl) (xm_rc q1 (by decide)) rfl q3 ?_
  refine xm_E_s r_X11_call_10 rfl rfl ?_
  refine xm_E_s r_X11_call_11 rfl rfl ?_
  refine xm_E_cv [.ref l0, .int l1] [.int r1] r_X11_call_12 rfl rfl (Nat.le_of_ble_eq_true rfl) (xm_rc q1 (by decide)) rfl q4 ?_
  refine xm_E_cs [.int r1, .int r2] [] r_X11_call_13 rfl rfl rfl (Nat.le_of_ble_eq_true rfl) rfl q5 ?_
  refine xm_E_s (ls1 := [some (.ref l0), some (.int l1), some (.int r3)]) r_X11_call_14 rfl rfl ?_
  refine xm_E_s r_X11_call_15 rfl rfl ?_
  refine xm_E_s r_X11_call_16 rfl rfl ?_
  refine xm_E_cv [.ref l0, .int r3] [] r_X11_call_17 rfl rfl (Nat.le_of_ble_eq_true rfl) (xm_rc q1 (by decide)) rfl q6 ?_
  refine xm_E_s r_X11_call_18 rfl rfl ?_
  refine xm_E_f q7 ?_
  refine xm_E_s r_X11_call_19 rfl rfl ?_
  refine xm_E_s r_X11_call_20 rfl rfl ?_
  exact xm_E_iret r_X11_call_22 rfl rfl
theorem r_X11_isCall_0 : co_X11_isCall[0]? = some ((0, .lload_n 1, 0, 0, 0, 0, 0, 0, []) : xm_I) := rfl
theorem r_X11_isCall_1 : co_X11_isCall[1]? = some ((1, .lconst 0, 0, 0, 0, 0, 0, 0, []) : xm_I) := rfl
theorem r_X11_isCall_2 : co_X11_isCall[2]? = some ((2, .aload_n 0, 0, 0, 0, 0, 0, 0, []) : xm_I) := rfl
theorem r_X11_isCall_3 : co_X11_isCall[3]? = some ((3, .getfield 9, 1381, 10, 1, 2, 0, 0, []) : xm_I) := rfl
theorem r_X11_isCall_4 : co_X11_isCall[4]? = some ((6, .bipush 19, 0, 0, 0, 0, 19, 0, []) : xm_I) := rfl
theorem r_X11_isCall_5 : co_X11_isCall[5]? = some ((8, .iaload, 0, 0, 0, 0, 0, 0, []) : xm_I) := rfl
theorem r_X11_isCall_6 : co_X11_isCall[6]? = some ((9, .iconst 1, 0, 0, 0, 0, 1, 0, []) : xm_I) := rfl
theorem r_X11_isCall_7 : co_X11_isCall[7]? = some ((10, .isub, 0, 0, 0, 0, 0, 0, []) : xm_I) := rfl
theorem r_X11_isCall_8 : co_X11_isCall[8]? = some ((11, .i2l, 0, 0, 0, 0, 0, 0, []) : xm_I) := rfl
theorem r_X11_isCall_9 : co_X11_isCall[9]? = some ((12, .invokestatic 84, 1503, 191, 3, 0, 0, 0, []) : xm_I) := rfl
theorem r_X11_isCall_10 : co_X11_isCall[10]? = some ((15, .ireturn, 0, 0, 0, 3, 0, 0, []) : xm_I) := rfl
theorem p_X11_isCall_0_0 {X : xm_X} {P : List xm_M} {d : Nat} {h : xm_H} {l0 : Nat} {l1 : Int64} {v0 : Nat} {n1 : Nat} {h2 : xm_H} {r2 : Int32} (q0 : X.1[l0]? = some (.inr 10)) (q1 : h.2.2 l0 1 = some v0) (q2 : X.1[v0]? = some (.inl (0, n1))) (q3 : 19 < n1) (q4 : xm_V X P d 191 [.long l1, .long (0 : Int64), .long (((h.1 v0 19) - (1 : Int32)).toInt64)] h (some (.int r2)) h2) (q5 : xm_okr 3 r2 = true) : xm_E X P d co_X11_isCall 0 [some (.ref l0), some (.long l1), none] [] h (some (.int r2)) h2 := by
  refine xm_E_s r_X11_isCall_0 rfl rfl ?_
  refine xm_E_s r_X11_isCall_1 rfl rfl ?_
  refine xm_E_s r_X11_isCall_2 rfl rfl ?_
  refine xm_E_s r_X11_isCall_3 rfl (xm_T_gr rfl q0 rfl rfl q1) ?_
  refine xm_E_s r_X11_isCall_4 rfl rfl ?_
  refine xm_E_s r_X11_isCall_5 rfl (xm_T_iald rfl q2 (by decide) (fun e => e.elim (fun e => absurd e (by decide)) (fun e => Nat.not_le.mpr q3 e))) ?_
  refine xm_E_s r_X11_isCall_6 rfl rfl ?_
  refine xm_E_s r_X11_isCall_7 rfl rfl ?_
  refine xm_E_s r_X11_isCall_8 rfl rfl ?_
  refine xm_E_cs [.long l1, .long (0 : Int64), .long (((h.1 v0 19) - (1 : Int32)).toInt64)] [] r_X11_isCall_9 rfl rfl rfl (Nat.le_of_ble_eq_true rfl) rfl q4 ?_
  exact xm_E_iret r_X11_isCall_10 rfl q5
theorem r_X11_her_0 : co_X11_her[0]? = some ((0, .aload_n 0, 0, 0, 0, 0, 0, 0, []) : xm_I) := rfl
theorem r_X11_her_1 : co_X11_her[1]? = some ((1, .getfield 9, 1381, 10, 1, 2, 0, 0, []) : xm_I) := rfl
theorem r_X11_her_2 : co_X11_her[2]? = some ((4, .bipush 24, 0, 0, 0, 0, 24, 0, []) : xm_I) := rfl
theorem r_X11_her_3 : co_X11_her[3]? = some ((6, .iconst 2, 0, 0, 0, 0, 2, 0, []) : xm_I) := rfl
theorem r_X11_her_4 : co_X11_her[4]? = some ((7, .iload_n 1, 0, 0, 0, 0, 0, 0, []) : xm_I) := rfl
theorem r_X11_her_5 : co_X11_her[5]? = some ((8, .imul, 0, 0, 0, 0, 0, 0, []) : xm_I) := rfl
theorem r_X11_her_6 : co_X11_her[6]? = some ((9, .iadd, 0, 0, 0, 0, 0, 0, []) : xm_I) := rfl
theorem r_X11_her_7 : co_X11_her[7]? = some ((10, .iaload, 0, 0, 0, 0, 0, 0, []) : xm_I) := rfl
theorem r_X11_her_8 : co_X11_her[8]? = some ((11, .ireturn, 0, 0, 0, 0, 0, 0, []) : xm_I) := rfl
theorem p_X11_her_0_0 {X : xm_X} {P : List xm_M} {d : Nat} {h : xm_H} {l0 : Nat} {l1 : Int32} {v0 : Nat} {n1 : Nat} (q0 : X.1[l0]? = some (.inr 10)) (q1 : h.2.2 l0 1 = some v0) (q2 : X.1[v0]? = some (.inl (0, n1))) (q3 : ¬ ((24 : Int32) + ((2 : Int32) * l1) < 0 ∨ n1 ≤ ((24 : Int32) + ((2 : Int32) * l1)).toNatClampNeg)) : xm_E X P d co_X11_her 0 [some (.ref l0), some (.int l1)] [] h (some (.int (h.1 v0 (((24 : Int32) + ((2 : Int32) * l1)).toNatClampNeg)))) h := by
  refine xm_E_s r_X11_her_0 rfl rfl ?_
  refine xm_E_s r_X11_her_1 rfl (xm_T_gr rfl q0 rfl rfl q1) ?_
  refine xm_E_s r_X11_her_2 rfl rfl ?_
  refine xm_E_s r_X11_her_3 rfl rfl ?_
  refine xm_E_s r_X11_her_4 rfl rfl ?_
  refine xm_E_s r_X11_her_5 rfl rfl ?_
  refine xm_E_s r_X11_her_6 rfl rfl ?_
  refine xm_E_s r_X11_her_7 rfl (xm_T_iald rfl q2 (by decide) q3) ?_
  exact xm_E_iret r_X11_her_8 rfl rfl
theorem r_X11_his_0 : co_X11_his[0]? = some ((0, .aload_n 0, 0, 0, 0, 0, 0, 0, []) : xm_I) := rfl
theorem r_X11_his_1 : co_X11_his[1]? = some ((1, .getfield 9, 1381, 10, 1, 2, 0, 0, []) : xm_I) := rfl
theorem r_X11_his_2 : co_X11_his[2]? = some ((4, .bipush 24, 0, 0, 0, 0, 24, 0, []) : xm_I) := rfl
theorem r_X11_his_3 : co_X11_his[3]? = some ((6, .iconst 2, 0, 0, 0, 0, 2, 0, []) : xm_I) := rfl
theorem r_X11_his_4 : co_X11_his[4]? = some ((7, .iload_n 1, 0, 0, 0, 0, 0, 0, []) : xm_I) := rfl
theorem r_X11_his_5 : co_X11_his[5]? = some ((8, .imul, 0, 0, 0, 0, 0, 0, []) : xm_I) := rfl
theorem r_X11_his_6 : co_X11_his[6]? = some ((9, .iadd, 0, 0, 0, 0, 0, 0, []) : xm_I) := rfl
theorem r_X11_his_7 : co_X11_his[7]? = some ((10, .iconst 1, 0, 0, 0, 0, 1, 0, []) : xm_I) := rfl
theorem r_X11_his_8 : co_X11_his[8]? = some ((11, .iadd, 0, 0, 0, 0, 0, 0, []) : xm_I) := rfl
theorem r_X11_his_9 : co_X11_his[9]? = some ((12, .iaload, 0, 0, 0, 0, 0, 0, []) : xm_I) := rfl
theorem r_X11_his_10 : co_X11_his[10]? = some ((13, .ireturn, 0, 0, 0, 0, 0, 0, []) : xm_I) := rfl
theorem p_X11_his_0_0 {X : xm_X} {P : List xm_M} {d : Nat} {h : xm_H} {l0 : Nat} {l1 : Int32} {v0 : Nat} {n1 : Nat} (q0 : X.1[l0]? = some (.inr 10)) (q1 : h.2.2 l0 1 = some v0) (q2 : X.1[v0]? = some (.inl (0, n1))) (q3 : ¬ (((24 : Int32) + ((2 : Int32) * l1)) + (1 : Int32) < 0 ∨ n1 ≤ (((24 : Int32) + ((2 : Int32) * l1)) + (1 : Int32)).toNatClampNeg)) : xm_E X P d co_X11_his 0 [some (.ref l0), some (.int l1)] [] h (some (.int (h.1 v0 ((((24 : Int32) + ((2 : Int32) * l1)) + (1 : Int32)).toNatClampNeg)))) h := by
  refine xm_E_s r_X11_his_0 rfl rfl ?_
  refine xm_E_s r_X11_his_1 rfl (xm_T_gr rfl q0 rfl rfl q1) ?_
  refine xm_E_s r_X11_his_2 rfl rfl ?_
  refine xm_E_s r_X11_his_3 rfl rfl ?_
  refine xm_E_s r_X11_his_4 rfl rfl ?_
  refine xm_E_s r_X11_his_5 rfl rfl ?_
  refine xm_E_s r_X11_his_6 rfl rfl ?_
  refine xm_E_s r_X11_his_7 rfl rfl ?_
  refine xm_E_s r_X11_his_8 rfl rfl ?_
  refine xm_E_s r_X11_his_9 rfl (xm_T_iald rfl q2 (by decide) q3) ?_
  exact xm_E_iret r_X11_his_10 rfl rfl
theorem r_X11_meaning_0 : co_X11_meaning[0]? = some ((0, .iload_n 0, 0, 0, 0, 0, 0, 0, []) : xm_I) := rfl
theorem r_X11_meaning_1 : co_X11_meaning[1]? = some ((1, .ifCond .ne 9, 0, 0, 6, 0, 0, 0, []) : xm_I) := rfl
theorem r_X11_meaning_2 : co_X11_meaning[2]? = some ((4, .iload_n 1, 0, 0, 0, 0, 0, 0, []) : xm_I) := rfl
theorem r_X11_meaning_3 : co_X11_meaning[3]? = some ((5, .ifCond .ne 5, 0, 0, 6, 0, 0, 0, []) : xm_I) := rfl
theorem r_X11_meaning_4 : co_X11_meaning[4]? = some ((8, .iconst 0, 0, 0, 0, 0, 0, 0, []) : xm_I) := rfl
theorem r_X11_meaning_5 : co_X11_meaning[5]? = some ((9, .ireturn, 0, 0, 0, 0, 0, 0, []) : xm_I) := rfl
theorem r_X11_meaning_6 : co_X11_meaning[6]? = some ((10, .iload_n 0, 0, 0, 0, 0, 0, 0, []) : xm_I) := rfl
theorem r_X11_meaning_7 : co_X11_meaning[7]? = some ((11, .iconst 1, 0, 0, 0, 0, 1, 0, []) : xm_I) := rfl
theorem r_X11_meaning_8 : co_X11_meaning[8]? = some ((12, .if_icmp .ne 10, 0, 0, 14, 0, 0, 0, []) : xm_I) := rfl
theorem r_X11_meaning_9 : co_X11_meaning[9]? = some ((15, .iload_n 1, 0, 0, 0, 0, 0, 0, []) : xm_I) := rfl
theorem r_X11_meaning_10 : co_X11_meaning[10]? = some ((16, .iconst 1, 0, 0, 0, 0, 1, 0, []) : xm_I) := rfl
theorem r_X11_meaning_11 : co_X11_meaning[11]? = some ((17, .if_icmp .ne 5, 0, 0, 14, 0, 0, 0, []) : xm_I) := rfl
theorem r_X11_meaning_12 : co_X11_meaning[12]? = some ((20, .iconst 1, 0, 0, 0, 0, 1, 0, []) : xm_I) := rfl
theorem r_X11_meaning_13 : co_X11_meaning[13]? = some ((21, .ireturn, 0, 0, 0, 0, 0, 0, []) : xm_I) := rfl
theorem r_X11_meaning_14 : co_X11_meaning[14]? = some ((22, .iload_n 0, 0, 0, 0, 0, 0, 0, []) : xm_I) := rfl
theorem r_X11_meaning_15 : co_X11_meaning[15]? = some ((23, .ifCond .ne 11, 0, 0, 21, 0, 0, 0, []) : xm_I) := rfl
theorem r_X11_meaning_16 : co_X11_meaning[16]? = some ((26, .iload_n 1, 0, 0, 0, 0, 0, 0, []) : xm_I) := rfl
theorem r_X11_meaning_17 : co_X11_meaning[17]? = some ((27, .iconst 1, 0, 0, 0, 0, 1, 0, []) : xm_I) := rfl
theorem r_X11_meaning_18 : co_X11_meaning[18]? = some ((28, .if_icmp .ne 6, 0, 0, 21, 0, 0, 0, []) : xm_I) := rfl
theorem r_X11_meaning_19 : co_X11_meaning[19]? = some ((31, .bipush 10, 0, 0, 0, 0, 10, 0, []) : xm_I) := rfl
theorem r_X11_meaning_20 : co_X11_meaning[20]? = some ((33, .ireturn, 0, 0, 0, 0, 0, 0, []) : xm_I) := rfl
theorem r_X11_meaning_21 : co_X11_meaning[21]? = some ((34, .iload_n 0, 0, 0, 0, 0, 0, 0, []) : xm_I) := rfl
theorem r_X11_meaning_22 : co_X11_meaning[22]? = some ((35, .iconst 1, 0, 0, 0, 0, 1, 0, []) : xm_I) := rfl
theorem r_X11_meaning_23 : co_X11_meaning[23]? = some ((36, .if_icmp .ne 10, 0, 0, 28, 0, 0, 0, []) : xm_I) := rfl
theorem r_X11_meaning_24 : co_X11_meaning[24]? = some ((39, .iload_n 1, 0, 0, 0, 0, 0, 0, []) : xm_I) := rfl
theorem r_X11_meaning_25 : co_X11_meaning[25]? = some ((40, .ifCond .ne 6, 0, 0, 28, 0, 0, 0, []) : xm_I) := rfl
theorem r_X11_meaning_26 : co_X11_meaning[26]? = some ((43, .bipush 11, 0, 0, 0, 0, 11, 0, []) : xm_I) := rfl
theorem r_X11_meaning_27 : co_X11_meaning[27]? = some ((45, .ireturn, 0, 0, 0, 0, 0, 0, []) : xm_I) := rfl
theorem r_X11_meaning_28 : co_X11_meaning[28]? = some ((46, .iload_n 0, 0, 0, 0, 0, 0, 0, []) : xm_I) := rfl
theorem r_X11_meaning_29 : co_X11_meaning[29]? = some ((47, .iconst 2, 0, 0, 0, 0, 2, 0, []) : xm_I) := rfl
theorem r_X11_meaning_30 : co_X11_meaning[30]? = some ((48, .if_icmp .ne 10, 0, 0, 36, 0, 0, 0, []) : xm_I) := rfl
theorem r_X11_meaning_31 : co_X11_meaning[31]? = some ((51, .iload_n 1, 0, 0, 0, 0, 0, 0, []) : xm_I) := rfl
theorem r_X11_meaning_32 : co_X11_meaning[32]? = some ((52, .iconst 3, 0, 0, 0, 0, 3, 0, []) : xm_I) := rfl
theorem r_X11_meaning_33 : co_X11_meaning[33]? = some ((53, .if_icmp .ne 5, 0, 0, 36, 0, 0, 0, []) : xm_I) := rfl
theorem r_X11_meaning_34 : co_X11_meaning[34]? = some ((56, .iconst 3, 0, 0, 0, 0, 3, 0, []) : xm_I) := rfl
theorem r_X11_meaning_35 : co_X11_meaning[35]? = some ((57, .ireturn, 0, 0, 0, 0, 0, 0, []) : xm_I) := rfl
theorem r_X11_meaning_36 : co_X11_meaning[36]? = some ((58, .iload_n 0, 0, 0, 0, 0, 0, 0, []) : xm_I) := rfl
theorem r_X11_meaning_37 : co_X11_meaning[37]? = some ((59, .iconst 3, 0, 0, 0, 0, 3, 0, []) : xm_I) := rfl
theorem r_X11_meaning_38 : co_X11_meaning[38]? = some ((60, .if_icmp .ne 10, 0, 0, 44, 0, 0, 0, []) : xm_I) := rfl
theorem r_X11_meaning_39 : co_X11_meaning[39]? = some ((63, .iload_n 1, 0, 0, 0, 0, 0, 0, []) : xm_I) := rfl
theorem r_X11_meaning_40 : co_X11_meaning[40]? = some ((64, .iconst 2, 0, 0, 0, 0, 2, 0, []) : xm_I) := rfl
theorem r_X11_meaning_41 : co_X11_meaning[41]? = some ((65, .if_icmp .ne 5, 0, 0, 44, 0, 0, 0, []) : xm_I) := rfl
theorem r_X11_meaning_42 : co_X11_meaning[42]? = some ((68, .iconst 4, 0, 0, 0, 0, 4, 0, []) : xm_I) := rfl
theorem r_X11_meaning_43 : co_X11_meaning[43]? = some ((69, .ireturn, 0, 0, 0, 0, 0, 0, []) : xm_I) := rfl
theorem r_X11_meaning_44 : co_X11_meaning[44]? = some ((70, .iload_n 0, 0, 0, 0, 0, 0, 0, []) : xm_I) := rfl
theorem r_X11_meaning_45 : co_X11_meaning[45]? = some ((71, .iconst 2, 0, 0, 0, 0, 2, 0, []) : xm_I) := rfl
theorem r_X11_meaning_46 : co_X11_meaning[46]? = some ((72, .if_icmp .ne 12, 0, 0, 52, 0, 0, 0, []) : xm_I) := rfl
theorem r_X11_meaning_47 : co_X11_meaning[47]? = some ((75, .iload_n 1, 0, 0, 0, 0, 0, 0, []) : xm_I) := rfl
theorem r_X11_meaning_48 : co_X11_meaning[48]? = some ((76, .iconst 2, 0, 0, 0, 0, 2, 0, []) : xm_I) := rfl
theorem r_X11_meaning_49 : co_X11_meaning[49]? = some ((77, .if_icmp .ne 7, 0, 0, 52, 0, 0, 0, []) : xm_I) := rfl
theorem r_X11_meaning_50 : co_X11_meaning[50]? = some ((80, .iconst 5, 0, 0, 0, 0, 5, 0, []) : xm_I) := rfl
theorem r_X11_meaning_51 : co_X11_meaning[51]? = some ((81, .goto 5, 0, 0, 53, 0, 0, 0, []) : xm_I) := rfl
theorem r_X11_meaning_52 : co_X11_meaning[52]? = some ((84, .bipush 12, 0, 0, 0, 0, 12, 0, []) : xm_I) := rfl
theorem r_X11_meaning_53 : co_X11_meaning[53]? = some ((86, .ireturn, 0, 0, 0, 0, 0, 0, []) : xm_I) := rfl
theorem p_X11_meaning_0_0 {X : xm_X} {P : List xm_M} {d : Nat} {h : xm_H} {l0 : Int32} {l1 : Int32} (q0 : l0 = (0 : Int32)) (q1 : l1 = (0 : Int32)) : xm_E X P d co_X11_meaning 0 [some (.int l0), some (.int l1)] [] h (some (.int (0 : Int32))) h := by
  refine xm_E_s r_X11_meaning_0 rfl rfl ?_
  refine xm_E_s r_X11_meaning_1 rfl rfl ?_
  refine xm_E_t q0 ?_
  refine xm_E_s r_X11_meaning_2 rfl rfl ?_
  refine xm_E_s r_X11_meaning_3 rfl rfl ?_
  refine xm_E_t q1 ?_
  refine xm_E_s r_X11_meaning_4 rfl rfl ?_
  exact xm_E_iret r_X11_meaning_5 rfl rfl
theorem p_X11_meaning_0_1 {X : xm_X} {P : List xm_M} {d : Nat} {h : xm_H} {l0 : Int32} {l1 : Int32} {ro : Option Value} {ho : xm_H} (q0 : l0 = (0 : Int32)) (q1 : ¬ (l1 = (0 : Int32))) (K : xm_E X P d co_X11_meaning 6 [some (.int l0), some (.int l1)] [] h ro ho) : xm_E X P d co_X11_meaning 0 [some (.int l0), some (.int l1)] [] h ro ho := by
  refine xm_E_s r_X11_meaning_0 rfl rfl ?_
  refine xm_E_s r_X11_meaning_1 rfl rfl ?_
  refine xm_E_t q0 ?_
  refine xm_E_s r_X11_meaning_2 rfl rfl ?_
  refine xm_E_s r_X11_meaning_3 rfl rfl ?_
  refine xm_E_f q1 ?_
  exact K
theorem p_X11_meaning_0_2 {X : xm_X} {P : List xm_M} {d : Nat} {h : xm_H} {l0 : Int32} {l1 : Int32} {ro : Option Value} {ho : xm_H} (q0 : ¬ (l0 = (0 : Int32))) (K : xm_E X P d co_X11_meaning 6 [some (.int l0), some (.int l1)] [] h ro ho) : xm_E X P d co_X11_meaning 0 [some (.int l0), some (.int l1)] [] h ro ho := by
  refine xm_E_s r_X11_meaning_0 rfl rfl ?_
  refine xm_E_s r_X11_meaning_1 rfl rfl ?_
  refine xm_E_f q0 ?_
  exact K
theorem p_X11_meaning_6_0 {X : xm_X} {P : List xm_M} {d : Nat} {h : xm_H} {l0 : Int32} {l1 : Int32} (q0 : l0 = (1 : Int32)) (q1 : l1 = (1 : Int32)) : xm_E X P d co_X11_meaning 6 [some (.int l0), some (.int l1)] [] h (some (.int (1 : Int32))) h := by
  refine xm_E_s r_X11_meaning_6 rfl rfl ?_
  refine xm_E_s r_X11_meaning_7 rfl rfl ?_
  refine xm_E_s r_X11_meaning_8 rfl rfl ?_
  refine xm_E_t q0 ?_
  refine xm_E_s r_X11_meaning_9 rfl rfl ?_
  refine xm_E_s r_X11_meaning_10 rfl rfl ?_
  refine xm_E_s r_X11_meaning_11 rfl rfl ?_
  refine xm_E_t q1 ?_
  refine xm_E_s r_X11_meaning_12 rfl rfl ?_
  exact xm_E_iret r_X11_meaning_13 rfl rfl
theorem p_X11_meaning_6_1 {X : xm_X} {P : List xm_M} {d : Nat} {h : xm_H} {l0 : Int32} {l1 : Int32} {ro : Option Value} {ho : xm_H} (q0 : l0 = (1 : Int32)) (q1 : ¬ (l1 = (1 : Int32))) (q2 : l0 = (0 : Int32)) (K : xm_E X P d co_X11_meaning 21 [some (.int l0), some (.int l1)] [] h ro ho) : xm_E X P d co_X11_meaning 6 [some (.int l0), some (.int l1)] [] h ro ho := by
  refine xm_E_s r_X11_meaning_6 rfl rfl ?_
  refine xm_E_s r_X11_meaning_7 rfl rfl ?_
  refine xm_E_s r_X11_meaning_8 rfl rfl ?_
  refine xm_E_t q0 ?_
  refine xm_E_s r_X11_meaning_9 rfl rfl ?_
  refine xm_E_s r_X11_meaning_10 rfl rfl ?_
  refine xm_E_s r_X11_meaning_11 rfl rfl ?_
  refine xm_E_f q1 ?_
  refine xm_E_s r_X11_meaning_14 rfl rfl ?_
  refine xm_E_s r_X11_meaning_15 rfl rfl ?_
  refine xm_E_t q2 ?_
  refine xm_E_s r_X11_meaning_16 rfl rfl ?_
  refine xm_E_s r_X11_meaning_17 rfl rfl ?_
  refine xm_E_s r_X11_meaning_18 rfl rfl ?_
  refine xm_E_f q1 ?_
  exact K
theorem p_X11_meaning_6_2 {X : xm_X} {P : List xm_M} {d : Nat} {h : xm_H} {l0 : Int32} {l1 : Int32} {ro : Option Value} {ho : xm_H} (q0 : l0 = (1 : Int32)) (q1 : ¬ (l1 = (1 : Int32))) (q2 : ¬ (l0 = (0 : Int32))) (K : xm_E X P d co_X11_meaning 21 [some (.int l0), some (.int l1)] [] h ro ho) : xm_E X P d co_X11_meaning 6 [some (.int l0), some (.int l1)] [] h ro ho := by
  refine xm_E_s r_X11_meaning_6 rfl rfl ?_
  refine xm_E_s r_X11_meaning_7 rfl rfl ?_
  refine xm_E_s r_X11_meaning_8 rfl rfl ?_
  refine xm_E_t q0 ?_
  refine xm_E_s r_X11_meaning_9 rfl rfl ?_
  refine xm_E_s r_X11_meaning_10 rfl rfl ?_
  refine xm_E_s r_X11_meaning_11 rfl rfl ?_
  refine xm_E_f q1 ?_
  refine xm_E_s r_X11_meaning_14 rfl rfl ?_
  refine xm_E_s r_X11_meaning_15 rfl rfl ?_
  refine xm_E_f q2 ?_
  exact K
theorem p_X11_meaning_6_3 {X : xm_X} {P : List xm_M} {d : Nat} {h : xm_H} {l0 : Int32} {l1 : Int32} (q0 : ¬ (l0 = (1 : Int32))) (q1 : l0 = (0 : Int32)) (q2 : l1 = (1 : Int32)) : xm_E X P d co_X11_meaning 6 [some (.int l0), some (.int l1)] [] h (some (.int (10 : Int32))) h := by
  refine xm_E_s r_X11_meaning_6 rfl rfl ?_
  refine xm_E_s r_X11_meaning_7 rfl rfl ?_
  refine xm_E_s r_X11_meaning_8 rfl rfl ?_
  refine xm_E_f q0 ?_
  refine xm_E_s r_X11_meaning_14 rfl rfl ?_
  refine xm_E_s r_X11_meaning_15 rfl rfl ?_
  refine xm_E_t q1 ?_
  refine xm_E_s r_X11_meaning_16 rfl rfl ?_
  refine xm_E_s r_X11_meaning_17 rfl rfl ?_
  refine xm_E_s r_X11_meaning_18 rfl rfl ?_
  refine xm_E_t q2 ?_
  refine xm_E_s r_X11_meaning_19 rfl rfl ?_
  exact xm_E_iret r_X11_meaning_20 rfl rfl
theorem p_X11_meaning_6_4 {X : xm_X} {P : List xm_M} {d : Nat} {h : xm_H} {l0 : Int32} {l1 : Int32} {ro : Option Value} {ho : xm_H} (q0 : ¬ (l0 = (1 : Int32))) (q1 : l0 = (0 : Int32)) (q2 : ¬ (l1 = (1 : Int32))) (K : xm_E X P d co_X11_meaning 21 [some (.int l0), some (.int l1)] [] h ro ho) : xm_E X P d co_X11_meaning 6 [some (.int l0), some (.int l1)] [] h ro ho := by
  refine xm_E_s r_X11_meaning_6 rfl rfl ?_
  refine xm_E_s r_X11_meaning_7 rfl rfl ?_
  refine xm_E_s r_X11_meaning_8 rfl rfl ?_
  refine xm_E_f q0 ?_
  refine xm_E_s r_X11_meaning_14 rfl rfl ?_
  refine xm_E_s r_X11_meaning_15 rfl rfl ?_
  refine xm_E_t q1 ?_
  refine xm_E_s r_X11_meaning_16 rfl rfl ?_
  refine xm_E_s r_X11_meaning_17 rfl rfl ?_
  refine xm_E_s r_X11_meaning_18 rfl rfl ?_
  refine xm_E_f q2 ?_
  exact K
theorem p_X11_meaning_6_5 {X : xm_X} {P : List xm_M} {d : Nat} {h : xm_H} {l0 : Int32} {l1 : Int32} {ro : Option Value} {ho : xm_H} (q0 : ¬ (l0 = (1 : Int32))) (q1 : ¬ (l0 = (0 : Int32))) (K : xm_E X P d co_X11_meaning 21 [some (.int l0), some (.int l1)] [] h ro ho) : xm_E X P d co_X11_meaning 6 [some (.int l0), some (.int l1)] [] h ro ho := by
  refine xm_E_s r_X11_meaning_6 rfl rfl ?_
  refine xm_E_s r_X11_meaning_7 rfl rfl ?_
  refine xm_E_s r_X11_meaning_8 rfl rfl ?_
  refine xm_E_f q0 ?_
  refine xm_E_s r_X11_meaning_14 rfl rfl ?_
  refine xm_E_s r_X11_meaning_15 rfl rfl ?_
  refine xm_E_f q1 ?_
  exact K
theorem p_X11_meaning_21_0 {X : xm_X} {P : List xm_M} {d : Nat} {h : xm_H} {l0 : Int32} {l1 : Int32} (q0 : l0 = (1 : Int32)) (q1 : l1 = (0 : Int32)) : xm_E X P d co_X11_meaning 21 [some (.int l0), some (.int l1)] [] h (some (.int (11 : Int32))) h := by
  refine xm_E_s r_X11_meaning_21 rfl rfl ?_
  refine xm_E_s r_X11_meaning_22 rfl rfl ?_
  refine xm_E_s r_X11_meaning_23 rfl rfl ?_
  refine xm_E_t q0 ?_
  refine xm_E_s r_X11_meaning_24 rfl rfl ?_
  refine xm_E_s r_X11_meaning_25 rfl rfl ?_
  refine xm_E_t q1 ?_
  refine xm_E_s r_X11_meaning_26 rfl rfl ?_
  exact xm_E_iret r_X11_meaning_27 rfl rfl
theorem p_X11_meaning_21_1 {X : xm_X} {P : List xm_M} {d : Nat} {h : xm_H} {l0 : Int32} {l1 : Int32} (q0 : l0 = (1 : Int32)) (q1 : ¬ (l1 = (0 : Int32))) (q2 : l0 = (2 : Int32)) (q3 : l1 = (3 : Int32)) : xm_E X P d co_X11_meaning 21 [some (.int l0), some (.int l1)] [] h (some (.int (3 : Int32))) h := by
  refine xm_E_s r_X11_meaning_21 rfl rfl ?_
  refine xm_E_s r_X11_meaning_22 rfl rfl ?_
  refine xm_E_s r_X11_meaning_23 rfl rfl ?_
  refine xm_E_t q0 ?_
  refine xm_E_s r_X11_meaning_24 rfl rfl ?_
  refine xm_E_s r_X11_meaning_25 rfl rfl ?_
  refine xm_E_f q1 ?_
  refine xm_E_s r_X11_meaning_28 rfl rfl ?_
  refine xm_E_s r_X11_meaning_29 rfl rfl ?_
  refine xm_E_s r_X11_meaning_30 rfl rfl ?_
  refine xm_E_t q2 ?_
  refine xm_E_s r_X11_meaning_31 rfl rfl ?_
  refine xm_E_s r_X11_meaning_32 rfl rfl ?_
  refine xm_E_s r_X11_meaning_33 rfl rfl ?_
  refine xm_E_t q3 ?_
  refine xm_E_s r_X11_meaning_34 rfl rfl ?_
  exact xm_E_iret r_X11_meaning_35 rfl rfl
theorem p_X11_meaning_21_2 {X : xm_X} {P : List xm_M} {d : Nat} {h : xm_H} {l0 : Int32} {l1 : Int32} {ro : Option Value} {ho : xm_H} (q0 : l0 = (1 : Int32)) (q1 : ¬ (l1 = (0 : Int32))) (q2 : l0 = (2 : Int32)) (q3 : ¬ (l1 = (3 : Int32))) (K : xm_E X P d co_X11_meaning 36 [some (.int l0), some (.int l1)] [] h ro ho) : xm_E X P d co_X11_meaning 21 [some (.int l0), some (.int l1)] [] h ro ho := by
  refine xm_E_s r_X11_meaning_21 rfl rfl ?_
  refine xm_E_s r_X11_meaning_22 rfl rfl ?_
  refine xm_E_s r_X11_meaning_23 rfl rfl ?_
  refine xm_E_t q0 ?_
  refine xm_E_s r_X11_meaning_24 rfl rfl ?_
  refine xm_E_s r_X11_meaning_25 rfl rfl ?_
  refine xm_E_f q1 ?_
  refine xm_E_s r_X11_meaning_28 rfl rfl ?_
  refine xm_E_s r_X11_meaning_29 rfl rfl ?_
  refine xm_E_s r_X11_meaning_30 rfl rfl ?_
  refine xm_E_t q2 ?_
  refine xm_E_s r_X11_meaning_31 rfl rfl ?_
  refine xm_E_s r_X11_meaning_32 rfl rfl ?_
  refine xm_E_s r_X11_meaning_33 rfl rfl ?_
  refine xm_E_f q3 ?_
  exact K
theorem p_X11_meaning_21_3 {X : xm_X} {P : List xm_M} {d : Nat} {h : xm_H} {l0 : Int32} {l1 : Int32} {ro : Option Value} {ho : xm_H} (q0 : l0 = (1 : Int32)) (q1 : ¬ (l1 = (0 : Int32))) (q2 : ¬ (l0 = (2 : Int32))) (K : xm_E X P d co_X11_meaning 36 [some (.int l0), some (.int l1)] [] h ro ho) : xm_E X P d co_X11_meaning 21 [some (.int l0), some (.int l1)] [] h ro ho := by
  refine xm_E_s r_X11_meaning_21 rfl rfl ?_
  refine xm_E_s r_X11_meaning_22 rfl rfl ?_
  refine xm_E_s r_X11_meaning_23 rfl rfl ?_
  refine xm_E_t q0 ?_
  refine xm_E_s r_X11_meaning_24 rfl rfl ?_
  refine xm_E_s r_X11_meaning_25 rfl rfl ?_
  refine xm_E_f q1 ?_
  refine xm_E_s r_X11_meaning_28 rfl rfl ?_
  refine xm_E_s r_X11_meaning_29 rfl rfl ?_
  refine xm_E_s r_X11_meaning_30 rfl rfl ?_
  refine xm_E_f q2 ?_
  exact K
theorem p_X11_meaning_21_4 {X : xm_X} {P : List xm_M} {d : Nat} {h : xm_H} {l0 : Int32} {l1 : Int32} (q0 : ¬ (l0 = (1 : Int32))) (q1 : l0 = (2 : Int32)) (q2 : l1 = (3 : Int32)) : xm_E X P d co_X11_meaning 21 [some (.int l0), some (.int l1)] [] h (some (.int (3 : Int32))) h := by
  refine xm_E_s r_X11_meaning_21 rfl rfl ?_
  refine xm_E_s r_X11_meaning_22 rfl rfl ?_
  refine xm_E_s r_X11_meaning_23 rfl rfl ?_
  refine xm_E_f q0 ?_
  refine xm_E_s r_X11_meaning_28 rfl rfl ?_
  refine xm_E_s r_X11_meaning_29 rfl rfl ?_
  refine xm_E_s r_X11_meaning_30 rfl rfl ?_
  refine xm_E_t q1 ?_
  refine xm_E_s r_X11_meaning_31 rfl rfl ?_
  refine xm_E_s r_X11_meaning_32 rfl rfl ?_
  refine xm_E_s r_X11_meaning_33 rfl rfl ?_
  refine xm_E_t q2 ?_
  refine xm_E_s r_X11_meaning_34 rfl rfl ?_
  exact xm_E_iret r_X11_meaning_35 rfl rfl
theorem p_X11_meaning_21_5 {X : xm_X} {P : List xm_M} {d : Nat} {h : xm_H} {l0 : Int32} {l1 : Int32} {ro : Option Value} {ho : xm_H} (q0 : ¬ (l0 = (1 : Int32))) (q1 : l0 = (2 : Int32)) (q2 : ¬ (l1 = (3 : Int32))) (K : xm_E X P d co_X11_meaning 36 [some (.int l0), some (.int l1)] [] h ro ho) : xm_E X P d co_X11_meaning 21 [some (.int l0), some (.int l1)] [] h ro ho := by
  refine xm_E_s r_X11_meaning_21 rfl rfl ?_
  refine xm_E_s r_X11_meaning_22 rfl rfl ?_
  refine xm_E_s r_X11_meaning_23 rfl rfl ?_
  refine xm_E_f q0 ?_
  refine xm_E_s r_X11_meaning_28 rfl rfl ?_
  refine xm_E_s r_X11_meaning_29 rfl rfl ?_
  refine xm_E_s r_X11_meaning_30 rfl rfl ?_
  refine xm_E_t q1 ?_
  refine xm_E_s r_X11_meaning_31 rfl rfl ?_
  refine xm_E_s r_X11_meaning_32 rfl rfl ?_
  refine xm_E_s r_X11_meaning_33 rfl rfl ?_
  refine xm_E_f q2 ?_
  exact K
theorem p_X11_meaning_21_6 {X : xm_X} {P : List xm_M} {d : Nat} {h : xm_H} {l0 : Int32} {l1 : Int32} {ro : Option Value} {ho : xm_H} (q0 : ¬ (l0 = (1 : Int32))) (q1 : ¬ (l0 = (2 : Int32))) (K : xm_E X P d co_X11_meaning 36 [some (.int l0), some (.int l1)] [] h ro ho) : xm_E X P d co_X11_meaning 21 [some (.int l0), some (.int l1)] [] h ro ho := by
  refine xm_E_s r_X11_meaning_21 rfl rfl ?_
  refine xm_E_s r_X11_meaning_22 rfl rfl ?_
  refine xm_E_s r_X11_meaning_23 rfl rfl ?_
  refine xm_E_f q0 ?_
  refine xm_E_s r_X11_meaning_28 rfl rfl ?_
  refine xm_E_s r_X11_meaning_29 rfl rfl ?_
  refine xm_E_s r_X11_meaning_30 rfl rfl ?_
  refine xm_E_f q1 ?_
  exact K
theorem p_X11_meaning_36_0 {X : xm_X} {P : List xm_M} {d : Nat} {h : xm_H} {l0 : Int32} {l1 : Int32} (q0 : l0 = (3 : Int32)) (q1 : l1 = (2 : Int32)) : xm_E X P d co_X11_meaning 36 [some (.int l0), some (.int l1)] [] h (some (.int (4 : Int32))) h := by
  refine xm_E_s r_X11_meaning_36 rfl rfl ?_
  refine xm_E_s r_X11_meaning_37 rfl rfl ?_
  refine xm_E_s r_X11_meaning_38 rfl rfl ?_
  refine xm_E_t q0 ?_
  refine xm_E_s r_X11_meaning_39 rfl rfl ?_
  refine xm_E_s r_X11_meaning_40 rfl rfl ?_
  refine xm_E_s r_X11_meaning_41 rfl rfl ?_
  refine xm_E_t q1 ?_
  refine xm_E_s r_X11_meaning_42 rfl rfl ?_
  exact xm_E_iret r_X11_meaning_43 rfl rfl
theorem p_X11_meaning_36_1 {X : xm_X} {P : List xm_M} {d : Nat} {h : xm_H} {l0 : Int32} {l1 : Int32} (q0 : l0 = (3 : Int32)) (q1 : ¬ (l1 = (2 : Int32))) (q2 : l0 = (2 : Int32)) : xm_E X P d co_X11_meaning 36 [some (.int l0), some (.int l1)] [] h (some (.int (12 : Int32))) h := by
  refine xm_E_s r_X11_meaning_36 rfl rfl ?_
  refine xm_E_s r_X11_meaning_37 rfl rfl ?_
  refine xm_E_s r_X11_meaning_38 rfl rfl ?_
  refine xm_E_t q0 ?_
  refine xm_E_s r_X11_meaning_39 rfl rfl ?_
  refine xm_E_s r_X11_meaning_40 rfl rfl ?_
  refine xm_E_s r_X11_meaning_41 rfl rfl ?_
  refine xm_E_f q1 ?_
  refine xm_E_s r_X11_meaning_44 rfl rfl ?_
  refine xm_E_s r_X11_meaning_45 rfl rfl ?_
  refine xm_E_s r_X11_meaning_46 rfl rfl ?_
  refine xm_E_t q2 ?_
  refine xm_E_s r_X11_meaning_47 rfl rfl ?_
  refine xm_E_s r_X11_meaning_48 rfl rfl ?_
  refine xm_E_s r_X11_meaning_49 rfl rfl ?_
  refine xm_E_f q1 ?_
  refine xm_E_s r_X11_meaning_52 rfl rfl ?_
  exact xm_E_iret r_X11_meaning_53 rfl rfl
theorem p_X11_meaning_36_2 {X : xm_X} {P : List xm_M} {d : Nat} {h : xm_H} {l0 : Int32} {l1 : Int32} (q0 : l0 = (3 : Int32)) (q1 : ¬ (l1 = (2 : Int32))) (q2 : ¬ (l0 = (2 : Int32))) : xm_E X P d co_X11_meaning 36 [some (.int l0), some (.int l1)] [] h (some (.int (12 : Int32))) h := by
  refine xm_E_s r_X11_meaning_36 rfl rfl ?_
  refine xm_E_s r_X11_meaning_37 rfl rfl ?_
  refine xm_E_s r_X11_meaning_38 rfl rfl ?_
  refine xm_E_t q0 ?_
  refine xm_E_s r_X11_meaning_39 rfl rfl ?_
  refine xm_E_s r_X11_meaning_40 rfl rfl ?_
  refine xm_E_s r_X11_meaning_41 rfl rfl ?_
  refine xm_E_f q1 ?_
  refine xm_E_s r_X11_meaning_44 rfl rfl ?_
  refine xm_E_s r_X11_meaning_45 rfl rfl ?_
  refine xm_E_s r_X11_meaning_46 rfl rfl ?_
  refine xm_E_f q2 ?_
  refine xm_E_s r_X11_meaning_52 rfl rfl ?_
  exact xm_E_iret r_X11_meaning_53 rfl rfl
theorem p_X11_meaning_36_3 {X : xm_X} {P : List xm_M} {d : Nat} {h : xm_H} {l0 : Int32} {l1 : Int32} (q0 : ¬ (l0 = (3 : Int32))) (q1 : l0 = (2 : Int32)) (q2 : l1 = (2 : Int32)) : xm_E X P d co_X11_meaning 36 [some (.int l0), some (.int l1)] [] h (some (.int (5 : Int32))) h := by
  refine xm_E_s r_X11_meaning_36 rfl rfl ?_
  refine xm_E_s r_X11_meaning_37 rfl rfl ?_
  refine xm_E_s r_X11_meaning_38 rfl rfl ?_
  refine xm_E_f q0 ?_
  refine xm_E_s r_X11_meaning_44 rfl rfl ?_
  refine xm_E_s r_X11_meaning_45 rfl rfl ?_
  refine xm_E_s r_X11_meaning_46 rfl rfl ?_
  refine xm_E_t q1 ?_
  refine xm_E_s r_X11_meaning_47 rfl rfl ?_
  refine xm_E_s r_X11_meaning_48 rfl rfl ?_
  refine xm_E_s r_X11_meaning_49 rfl rfl ?_
  refine xm_E_t q2 ?_
  refine xm_E_s r_X11_meaning_50 rfl rfl ?_
  refine xm_E_s r_X11_meaning_51 rfl rfl ?_
  exact xm_E_iret r_X11_meaning_53 rfl rfl
theorem p_X11_meaning_36_4 {X : xm_X} {P : List xm_M} {d : Nat} {h : xm_H} {l0 : Int32} {l1 : Int32} (q0 : ¬ (l0 = (3 : Int32))) (q1 : l0 = (2 : Int32)) (q2 : ¬ (l1 = (2 : Int32))) : xm_E X P d co_X11_meaning 36 [some (.int l0), some (.int l1)] [] h (some (.int (12 : Int32))) h := by
  refine xm_E_s r_X11_meaning_36 rfl rfl ?_
  refine xm_E_s r_X11_meaning_37 rfl rfl ?_
  refine xm_E_s r_X11_meaning_38 rfl rfl ?_
  refine xm_E_f q0 ?_
  refine xm_E_s r_X11_meaning_44 rfl rfl ?_
  refine xm_E_s r_X11_meaning_45 rfl rfl ?_
  refine xm_E_s r_X11_meaning_46 rfl rfl ?_
  refine xm_E_t q1 ?_
  refine xm_E_s r_X11_meaning_47 rfl rfl ?_
  refine xm_E_s r_X11_meaning_48 rfl rfl ?_
  refine xm_E_s r_X11_meaning_49 rfl rfl ?_
  refine xm_E_f q2 ?_
  refine xm_E_s r_X11_meaning_52 rfl rfl ?_
  exact xm_E_iret r_X11_meaning_53 rfl rfl
theorem p_X11_meaning_36_5 {X : xm_X} {P : List xm_M} {d : Nat} {h : xm_H} {l0 : Int32} {l1 : Int32} (q0 : ¬ (l0 = (3 : Int32))) (q1 : ¬ (l0 = (2 : Int32))) : xm_E X P d co_X11_meaning 36 [some (.int l0), some (.int l1)] [] h (some (.int (12 : Int32))) h := by
  refine xm_E_s r_X11_meaning_36 rfl rfl ?_
  refine xm_E_s r_X11_meaning_37 rfl rfl ?_
  refine xm_E_s r_X11_meaning_38 rfl rfl ?_
  refine xm_E_f q0 ?_
  refine xm_E_s r_X11_meaning_44 rfl rfl ?_
  refine xm_E_s r_X11_meaning_45 rfl rfl ?_
  refine xm_E_s r_X11_meaning_46 rfl rfl ?_
  refine xm_E_f q1 ?_
  refine xm_E_s r_X11_meaning_52 rfl rfl ?_
  exact xm_E_iret r_X11_meaning_53 rfl rfl
theorem r_X11_undo_0 : co_X11_undo[0]? = some ((0, .aload_n 0, 0, 0, 0, 0, 0, 0, []) : xm_I) := rfl
theorem r_X11_undo_1 : co_X11_undo[1]? = some ((1, .invokevirtual 324, 1643, 216, 1, 10, 0, 0, []) : xm_I) := rfl
theorem r_X11_undo_2 : co_X11_undo[2]? = some ((4, .ifCond .ne 6, 0, 0, 5, 0, 0, 0, []) : xm_I) := rfl
theorem r_X11_undo_3 : co_X11_undo[3]? = some ((7, .bipush (-2), 0, 0, 0, 0, (-2), 0, []) : xm_I) := rfl
theorem r_X11_undo_4 : co_X11_undo[4]? = some ((9, .ireturn, 0, 0, 0, 0, 0, 0, []) : xm_I) := rfl
theorem r_X11_undo_5 : co_X11_undo[5]? = some ((10, .aload_n 0, 0, 0, 0, 0, 0, 0, []) : xm_I) := rfl
theorem r_X11_undo_6 : co_X11_undo[6]? = some ((11, .getfield 9, 1381, 10, 1, 2, 0, 0, []) : xm_I) := rfl
theorem r_X11_undo_7 : co_X11_undo[7]? = some ((14, .bipush 23, 0, 0, 0, 0, 23, 0, []) : xm_I) := rfl
theorem r_X11_undo_8 : co_X11_undo[8]? = some ((16, .iaload, 0, 0, 0, 0, 0, 0, []) : xm_I) := rfl
theorem r_X11_undo_9 : co_X11_undo[9]? = some ((17, .ifCond .ne 6, 0, 0, 12, 0, 0, 0, []) : xm_I) := rfl
theorem r_X11_undo_10 : co_X11_undo[10]? = some ((20, .bipush (-5), 0, 0, 0, 0, (-5), 0, []) : xm_I) := rfl
theorem r_X11_undo_11 : co_X11_undo[11]? = some ((22, .ireturn, 0, 0, 0, 0, 0, 0, []) : xm_I) := rfl
theorem r_X11_undo_12 : co_X11_undo[12]? = some ((23, .aload_n 0, 0, 0, 0, 0, 0, 0, []) : xm_I) := rfl
theorem r_X11_undo_13 : co_X11_undo[13]? = some ((24, .getfield 9, 1381, 10, 1, 2, 0, 0, []) : xm_I) := rfl
theorem r_X11_undo_14 : co_X11_undo[14]? = some ((27, .bipush 23, 0, 0, 0, 0, 23, 0, []) : xm_I) := rfl
theorem r_X11_undo_15 : co_X11_undo[15]? = some ((29, .dup2, 0, 0, 0, 0, 0, 0, []) : xm_I) := rfl
theorem r_X11_undo_16 : co_X11_undo[16]? = some ((30, .iaload, 0, 0, 0, 0, 0, 0, []) : xm_I) := rfl
theorem r_X11_undo_17 : co_X11_undo[17]? = some ((31, .iconst 1, 0, 0, 0, 0, 1, 0, []) : xm_I) := rfl
theorem r_X11_undo_18 : co_X11_undo[18]? = some ((32, .isub, 0, 0, 0, 0, 0, 0, []) : xm_I) := rfl
theorem r_X11_undo_19 : co_X11_undo[19]? = some ((33, .iastore, 0, 0, 0, 0, 0, 0, []) : xm_I) := rfl
theorem r_X11_undo_20 : co_X11_undo[20]? = some ((34, .aload_n 0, 0, 0, 0, 0, 0, 0, []) : xm_I) := rfl
theorem r_X11_undo_21 : co_X11_undo[21]? = some ((35, .getfield 9, 1381, 10, 1, 2, 0, 0, []) : xm_I) := rfl
theorem r_X11_undo_22 : co_X11_undo[22]? = some ((38, .bipush 23, 0, 0, 0, 0, 23, 0, []) : xm_I) := rfl
theorem r_X11_undo_23 : co_X11_undo[23]? = some ((40, .iaload, 0, 0, 0, 0, 0, 0, []) : xm_I) := rfl
theorem r_X11_undo_24 : co_X11_undo[24]? = some ((41, .ireturn, 0, 0, 0, 0, 0, 0, []) : xm_I) := rfl
theorem p_X11_undo_0_0 {X : xm_X} {P : List xm_M} {d : Nat} {h : xm_H} {l0 : Nat} {h0 : xm_H} {r0 : Int32} (q0 : xm_V X P d 216 [.ref l0] h (some (.int r0)) h0) (q1 : X.1[l0]? = some (.inr 10)) (q2 : r0 = (0 : Int32)) : xm_E X P d co_X11_undo 0 [some (.ref l0)] [] h (some (.int (-2 : Int32))) h0 := by
  refine xm_E_s r_X11_undo_0 rfl rfl ?_
  refine xm_E_cv [.ref l0] [] r_X11_undo_1 rfl rfl (Nat.le_of_ble_eq_true rfl) (xm_rc q1 (by decide)) rfl q0 ?_
  refine xm_E_s r_X11_undo_2 rfl rfl ?_
  refine xm_E_t q2 ?_
  refine xm_E_s r_X11_undo_3 rfl rfl ?_
  exact xm_E_iret r_X11_undo_4 rfl rfl
theorem p_X11_undo_0_1 {X : xm_X} {P : List xm_M} {d : Nat} {h : xm_H} {l0 : Nat} {h0 : xm_H} {r0 : Int32} {v1 : Nat} {n2 : Nat} (q0 : xm_V X P d 216 [.ref l0] h (some (.int r0)) h0) (q1 : X.1[l0]? = some (.inr 10)) (q2 : ¬ (r0 = (0 : Int32))) (q3 : h0.2.2 l0 1 = some v1) (q4 : X.1[v1]? = some (.inl (0, n2))) (q5 : 23 < n2) (q6 : h0.1 v1 23 = (0 : Int32)) : xm_E X P d co_X11_undo 0 [some (.ref l0)] [] h (some (.int (-5 : Int32))) h0 := by
  refine xm_E_s r_X11_undo_0 rfl rfl ?_
  refine xm_E_cv [.ref l0] [] r_X11_undo_1 rfl rfl (Nat.le_of_ble_eq_true rfl) (xm_rc q1 (by decide)) rfl q0 ?_
  refine xm_E_s r_X11_undo_2 rfl rfl ?_
  refine xm_E_f q2 ?_
  refine xm_E_s r_X11_undo_5 rfl rfl ?_
  refine xm_E_s r_X11_undo_6 rfl (xm_T_gr rfl q1 rfl rfl q3) ?_
  refine xm_E_s r_X11_undo_7 rfl rfl ?_
  refine xm_E_s r_X11_undo_8 rfl (xm_T_iald rfl q4 (by decide) (fun e => e.elim (fun e => absurd e (by decide)) (fun e => Nat.not_le.mpr q5 e))) ?_
  refine xm_E_s r_X11_undo_9 rfl rfl ?_
  refine xm_E_t q6 ?_
  refine xm_E_s r_X11_undo_10 rfl rfl ?_
  exact xm_E_iret r_X11_undo_11 rfl rfl
theorem p_X11_undo_0_2 {X : xm_X} {P : List xm_M} {d : Nat} {h : xm_H} {l0 : Nat} {h0 : xm_H} {r0 : Int32} {v1 : Nat} {n2 : Nat} {v3 : Nat} {n4 : Nat} (q0 : xm_V X P d 216 [.ref l0] h (some (.int r0)) h0) (q1 : X.1[l0]? = some (.inr 10)) (q2 : ¬ (r0 = (0 : Int32))) (q3 : h0.2.2 l0 1 = some v1) (q4 : X.1[v1]? = some (.inl (0, n2))) (q5 : 23 < n2) (q6 : ¬ (h0.1 v1 23 = (0 : Int32))) (q7 : (xm_si h0 v1 23 ((h0.1 v1 23) - (1 : Int32))).2.2 l0 1 = some v3) (q8 : X.1[v3]? = some (.inl (0, n4))) (q9 : 23 < n4) : xm_E X P d co_X11_undo 0 [some (.ref l0)] [] h (some (.int ((xm_si h0 v1 23 ((h0.1 v1 23) - (1 : Int32))).1 v3 23))) (xm_si h0 v1 23 ((h0.1 v1 23) - (1 : Int32))) := by
  refine xm_E_s r_X11_undo_0 rfl rfl ?_
  refine xm_E_cv [.ref l0] [] r_X11_undo_1 rfl rfl (Nat.le_of_ble_eq_true rfl) (xm_rc q1 (by decide)) rfl q0 ?_
  refine xm_E_s r_X11_undo_2 rfl rfl ?_
  refine xm_E_f q2 ?_
  refine xm_E_s r_X11_undo_5 rfl rfl ?_
  refine xm_E_s r_X11_undo_6 rfl (xm_T_gr rfl q1 rfl rfl q3) ?_
  refine xm_E_s r_X11_undo_7 rfl rfl ?_
  refine xm_E_s r_X11_undo_8 rfl (xm_T_iald rfl q4 (by decide) (fun e => e.elim (fun e => absurd e (by decide)) (fun e => Nat.not_le.mpr q5 e))) ?_
  refine xm_E_s r_X11_undo_9 rfl rfl ?_
  refine xm_E_f q6 ?_
  refine xm_E_s r_X11_undo_12 rfl rfl ?_
  refine xm_E_s r_X11_undo_13 rfl (xm_T_gr rfl q1 rfl rfl q3) ?_
  refine xm_E_s r_X11_undo_14 rfl rfl ?_
  refine xm_E_s r_X11_undo_15 rfl rfl ?_
  refine xm_E_s r_X11_undo_16 rfl (xm_T_iald rfl q4 (by decide) (fun e => e.elim (fun e => absurd e (by decide)) (fun e => Nat.not_le.mpr q5 e))) ?_
  refine xm_E_s r_X11_undo_17 rfl rfl ?_
  refine xm_E_s r_X11_undo_18 rfl rfl ?_
  refine xm_E_s r_X11_undo_19 rfl (xm_T_asi rfl q4 (fun e => e.elim (fun e => absurd e (by decide)) (fun e => Nat.not_le.mpr q5 e))) ?_
  refine xm_E_s r_X11_undo_20 rfl rfl ?_
  refine xm_E_s r_X11_undo_21 rfl (xm_T_gr rfl q1 rfl rfl q7) ?_
  refine xm_E_s r_X11_undo_22 rfl rfl ?_
  refine xm_E_s r_X11_undo_23 rfl (xm_T_iald rfl q8 (by decide) (fun e => e.elim (fun e => absurd e (by decide)) (fun e => Nat.not_le.mpr q9 e))) ?_
  exact xm_E_iret r_X11_undo_24 rfl rfl
theorem r_X11_led_0 : co_X11_led[0]? = some ((0, .aload_n 0, 0, 0, 0, 0, 0, 0, []) : xm_I) := rfl
theorem r_X11_led_1 : co_X11_led[1]? = some ((1, .invokevirtual 324, 1643, 216, 1, 10, 0, 0, []) : xm_I) := rfl
theorem r_X11_led_2 : co_X11_led[2]? = some ((4, .ifCond .ne 8, 0, 0, 5, 0, 0, 0, []) : xm_I) := rfl
theorem r_X11_led_3 : co_X11_led[3]? = some ((7, .bipush (-2), 0, 0, 0, 0, (-2), 0, []) : xm_I) := rfl
theorem r_X11_led_4 : co_X11_led[4]? = some ((9, .goto 35, 0, 0, 25, 0, 0, 0, []) : xm_I) := rfl
theorem r_X11_led_5 : co_X11_led[5]? = some ((12, .iload_n 1, 0, 0, 0, 0, 0, 0, []) : xm_I) := rfl
theorem r_X11_led_6 : co_X11_led[6]? = some ((13, .i2l, 0, 0, 0, 0, 0, 0, []) : xm_I) := rfl
theorem r_X11_led_7 : co_X11_led[7]? = some ((14, .lconst 0, 0, 0, 0, 0, 0, 0, []) : xm_I) := rfl
theorem r_X11_led_8 : co_X11_led[8]? = some ((15, .aload_n 0, 0, 0, 0, 0, 0, 0, []) : xm_I) := rfl
theorem r_X11_led_9 : co_X11_led[9]? = some ((16, .getfield 9, 1381, 10, 1, 2, 0, 0, []) : xm_I) := rfl
theorem r_X11_led_10 : co_X11_led[10]? = some ((19, .bipush 23, 0, 0, 0, 0, 23, 0, []) : xm_I) := rfl
theorem r_X11_led_11 : co_X11_led[11]? = some ((21, .iaload, 0, 0, 0, 0, 0, 0, []) : xm_I) := rfl
theorem r_X11_led_12 : co_X11_led[12]? = some ((22, .iconst 1, 0, 0, 0, 0, 1, 0, []) : xm_I) := rfl
theorem r_X11_led_13 : co_X11_led[13]? = some ((23, .isub, 0, 0, 0, 0, 0, 0, []) : xm_I) := rfl
theorem r_X11_led_14 : co_X11_led[14]? = some ((24, .i2l, 0, 0, 0, 0, 0, 0, []) : xm_I) := rfl
theorem r_X11_led_15 : co_X11_led[15]? = some ((25, .invokestatic 84, 1503, 191, 3, 0, 0, 0, []) : xm_I) := rfl
theorem r_X11_led_16 : co_X11_led[16]? = some ((28, .ifCond .eq 15, 0, 0, 24, 0, 0, 0, []) : xm_I) := rfl
theorem r_X11_led_17 : co_X11_led[17]? = some ((31, .aload_n 0, 0, 0, 0, 0, 0, 0, []) : xm_I) := rfl
theorem r_X11_led_18 : co_X11_led[18]? = some ((32, .getfield 9, 1381, 10, 1, 2, 0, 0, []) : xm_I) := rfl
theorem r_X11_led_19 : co_X11_led[19]? = some ((35, .bipush 50, 0, 0, 0, 0, 50, 0, []) : xm_I) := rfl
theorem r_X11_led_20 : co_X11_led[20]? = some ((37, .iload_n 1, 0, 0, 0, 0, 0, 0, []) : xm_I) := rfl
theorem r_X11_led_21 : co_X11_led[21]? = some ((38, .iadd, 0, 0, 0, 0, 0, 0, []) : xm_I) := rfl
theorem r_X11_led_22 : co_X11_led[22]? = some ((39, .iaload, 0, 0, 0, 0, 0, 0, []) : xm_I) := rfl
theorem r_X11_led_23 : co_X11_led[23]? = some ((40, .goto 4, 0, 0, 25, 0, 0, 0, []) : xm_I) := rfl
theorem r_X11_led_24 : co_X11_led[24]? = some ((43, .iconst (-1), 0, 0, 0, 0, (-1), 0, []) : xm_I) := rfl
theorem r_X11_led_25 : co_X11_led[25]? = some ((44, .ireturn, 0, 0, 0, 0, 0, 0, []) : xm_I) := rfl
theorem p_X11_led_0_0 {X : xm_X} {P : List xm_M} {d : Nat} {h : xm_H} {l0 : Nat} {l1 : Int32} {h0 : xm_H} {r0 : Int32} (q0 : xm_V X P d 216 [.ref l0] h (some (.int r0)) h0) (q1 : X.1[l0]? = some (.inr 10)) (q2 : r0 = (0 : Int32)) : xm_E X P d co_X11_led 0 [some (.ref l0), some (.int l1)] [] h (some (.int (-2 : Int32))) h0 := by
  refine xm_E_s r_X11_led_0 rfl rfl ?_
  refine xm_E_cv [.ref l0] [] r_X11_led_1 rfl rfl (Nat.le_of_ble_eq_true rfl) (xm_rc q1 (by decide)) rfl q0 ?_
  refine xm_E_s r_X11_led_2 rfl rfl ?_
  refine xm_E_t q2 ?_
  refine xm_E_s r_X11_led_3 rfl rfl ?_
  refine xm_E_s r_X11_led_4 rfl rfl ?_
  exact xm_E_iret r_X11_led_25 rfl rfl
theorem p_X11_led_0_1 {X : xm_X} {P : List xm_M} {d : Nat} {h : xm_H} {l0 : Nat} {l1 : Int32} {h0 : xm_H} {r0 : Int32} {v1 : Nat} {n2 : Nat} {h3 : xm_H} {r3 : Int32} (q0 : xm_V X P d 216 [.ref l0] h (some (.int r0)) h0) (q1 : X.1[l0]? = some (.inr 10)) (q2 : ¬ (r0 = (0 : Int32))) (q3 : h0.2.2 l0 1 = some v1) (q4 : X.1[v1]? = some (.inl (0, n2))) (q5 : 23 < n2) (q6 : xm_V X P d 191 [.long l1.toInt64, .long (0 : Int64), .long (((h0.1 v1 23) - (1 : Int32)).toInt64)] h0 (some (.int r3)) h3) (q7 : r3 = (0 : Int32)) : xm_E X P d co_X11_led 0 [some (.ref l0), some (.int l1)] [] h (some (.int (-1 : Int32))) h3 := by
  refine xm_E_s r_X11_led_0 rfl rfl ?_
  refine xm_E_cv [.ref l0] [] r_X11_led_1 rfl rfl (Nat.le_of_ble_eq_true rfl) (xm_rc q1 (by decide)) rfl q0 ?_
  refine xm_E_s r_X11_led_2 rfl rfl ?_
  refine xm_E_f q2 ?_
  refine xm_E_s r_X11_led_5 rfl rfl ?_
  refine xm_E_s r_X11_led_6 rfl rfl ?_
  refine xm_E_s r_X11_led_7 rfl rfl ?_
  refine xm_E_s r_X11_led_8 rfl rfl ?_
  refine xm_E_s r_X11_led_9 rfl (xm_T_gr rfl q1 rfl rfl q3) ?_
  refine xm_E_s r_X11_led_10 rfl rfl ?_
  refine xm_E_s r_X11_led_11 rfl (xm_T_iald rfl q4 (by decide) (fun e => e.elim (fun e => absurd e (by decide)) (fun e => Nat.not_le.mpr q5 e))) ?_
  refine xm_E_s r_X11_led_12 rfl rfl ?_
  refine xm_E_s r_X11_led_13 rfl rfl ?_
  refine xm_E_s r_X11_led_14 rfl rfl ?_
  refine xm_E_cs [.long l1.toInt64, .long (0 : Int64), .long (((h0.1 v1 23) - (1 : Int32)).toInt64)] [] r_X11_led_15 rfl rfl rfl (Nat.le_of_ble_eq_true rfl) rfl q6 ?_
  refine xm_E_s r_X11_led_16 rfl rfl ?_
  refine xm_E_t q7 ?_
  refine xm_E_s r_X11_led_24 rfl rfl ?_
  exact xm_E_iret r_X11_led_25 rfl rfl
theorem p_X11_led_0_2 {X : xm_X} {P : List xm_M} {d : Nat} {h : xm_H} {l0 : Nat} {l1 : Int32} {h0 : xm_H} {r0 : Int32} {v1 : Nat} {n2 : Nat} {h3 : xm_H} {r3 : Int32} {v4 : Nat} {n5 : Nat} (q0 : xm_V X P d 216 [.ref l0] h (some (.int r0)) h0) (q1 : X.1[l0]? = some (.inr 10)) (q2 : ¬ (r0 = (0 : Int32))) (q3 : h0.2.2 l0 1 = some v1) (q4 : X.1[v1]? = some (.inl (0, n2))) (q5 : 23 < n2) (q6 : xm_V X P d 191 [.long l1.toInt64, .long (0 : Int64), .long (((h0.1 v1 23) - (1 : Int32)).toInt64)] h0 (some (.int r3)) h3) (q7 : ¬ (r3 = (0 : Int32))) (q8 : h3.2.2 l0 1 = some v4) (q9 : X.1[v4]? = some (.inl (0, n5))) (q10 : ¬ ((50 : Int32) + l1 < 0 ∨ n5 ≤ ((50 : Int32) + l1).toNatClampNeg)) : xm_E X P d co_X11_led 0 [some (.ref l0), some (.int l1)] [] h (some (.int (h3.1 v4 (((50 : Int32) + l1).toNatClampNeg)))) h3 := by
  refine xm_E_s r_X11_led_0 rfl rfl ?_
  refine xm_E_cv [.ref l0] [] r_X11_led_1 rfl rfl (Nat.le_of_ble_eq_true rfl) (xm_rc q1 (by decide)) rfl q0 ?_
  refine xm_E_s r_X11_led_2 rfl rfl ?_
  refine xm_E_f q2 ?_
  refine xm_E_s r_X11_led_5 rfl rfl ?_
  refine xm_E_s r_X11_led_6 rfl rfl ?_
  refine xm_E_s r_X11_led_7 rfl rfl ?_
  refine xm_E_s r_X11_led_8 rfl rfl ?_
  refine xm_E_s r_X11_led_9 rfl (xm_T_gr rfl q1 rfl rfl q3) ?_
  refine xm_E_s r_X11_led_10 rfl rfl ?_
  refine xm_E_s r_X11_led_11 rfl (xm_T_iald rfl q4 (by decide) (fun e => e.elim (fun e => absurd e (by decide)) (fun e => Nat.not_le.mpr q5 e))) ?_
  refine xm_E_s r_X11_led_12 rfl rfl ?_
  refine xm_E_s r_X11_led_13 rfl rfl ?_
  refine xm_E_s r_X11_led_14 rfl rfl ?_
  refine xm_E_cs [.long l1.toInt64, .long (0 : Int64), .long (((h0.1 v1 23) - (1 : Int32)).toInt64)] [] r_X11_led_15 rfl rfl rfl (Nat.le_of_ble_eq_true rfl) rfl q6 ?_
  refine xm_E_s r_X11_led_16 rfl rfl ?_
  refine xm_E_f q7 ?_
  refine xm_E_s r_X11_led_17 rfl rfl ?_
  refine xm_E_s r_X11_led_18 rfl (xm_T_gr rfl q1 rfl rfl q8) ?_
  refine xm_E_s r_X11_led_19 rfl rfl ?_
  refine xm_E_s r_X11_led_20 rfl rfl ?_
  refine xm_E_s r_X11_led_21 rfl rfl ?_
  refine xm_E_s r_X11_led_22 rfl (xm_T_iald rfl q9 (by decide) q10) ?_
  refine xm_E_s r_X11_led_23 rfl rfl ?_
  exact xm_E_iret r_X11_led_25 rfl rfl
theorem r_X11_anew_0 : co_X11_anew[0]? = some ((0, .aload_n 0, 0, 0, 0, 0, 0, 0, []) : xm_I) := rfl
theorem r_X11_anew_1 : co_X11_anew[1]? = some ((1, .invokevirtual 324, 1643, 216, 1, 10, 0, 0, []) : xm_I) := rfl
theorem r_X11_anew_2 : co_X11_anew[2]? = some ((4, .ifCond .ne 6, 0, 0, 5, 0, 0, 0, []) : xm_I) := rfl
theorem r_X11_anew_3 : co_X11_anew[3]? = some ((7, .bipush (-2), 0, 0, 0, 0, (-2), 0, []) : xm_I) := rfl
theorem r_X11_anew_4 : co_X11_anew[4]? = some ((9, .ireturn, 0, 0, 0, 0, 0, 0, []) : xm_I) := rfl
theorem r_X11_anew_5 : co_X11_anew[5]? = some ((10, .aload_n 0, 0, 0, 0, 0, 0, 0, []) : xm_I) := rfl
theorem r_X11_anew_6 : co_X11_anew[6]? = some ((11, .getfield 9, 1381, 10, 1, 2, 0, 0, []) : xm_I) := rfl
theorem r_X11_anew_7 : co_X11_anew[7]? = some ((14, .bipush 23, 0, 0, 0, 0, 23, 0, []) : xm_I) := rfl
theorem r_X11_anew_8 : co_X11_anew[8]? = some ((16, .iaload, 0, 0, 0, 0, 0, 0, []) : xm_I) := rfl
theorem r_X11_anew_9 : co_X11_anew[9]? = some ((17, .istore_n 1, 0, 0, 0, 0, 0, 0, []) : xm_I) := rfl
theorem r_X11_anew_10 : co_X11_anew[10]? = some ((18, .aload_n 0, 0, 0, 0, 0, 0, 0, []) : xm_I) := rfl
theorem r_X11_anew_11 : co_X11_anew[11]? = some ((19, .getfield 9, 1381, 10, 1, 2, 0, 0, []) : xm_I) := rfl
theorem r_X11_anew_12 : co_X11_anew[12]? = some ((22, .bipush 23, 0, 0, 0, 0, 23, 0, []) : xm_I) := rfl
theorem r_X11_anew_13 : co_X11_anew[13]? = some ((24, .iconst 0, 0, 0, 0, 0, 0, 0, []) : xm_I) := rfl
theorem r_X11_anew_14 : co_X11_anew[14]? = some ((25, .iastore, 0, 0, 0, 0, 0, 0, []) : xm_I) := rfl
theorem r_X11_anew_15 : co_X11_anew[15]? = some ((26, .iload_n 1, 0, 0, 0, 0, 0, 0, []) : xm_I) := rfl
theorem r_X11_anew_16 : co_X11_anew[16]? = some ((27, .ireturn, 0, 0, 0, 0, 0, 0, []) : xm_I) := rfl
theorem p_X11_anew_0_0 {X : xm_X} {P : List xm_M} {d : Nat} {h : xm_H} {l0 : Nat} {h0 : xm_H} {r0 : Int32} (q0 : xm_V X P d 216 [.ref l0] h (some (.int r0)) h0) (q1 : X.1[l0]? = some (.inr 10)) (q2 : r0 = (0 : Int32)) : xm_E X P d co_X11_anew 0 [some (.ref l0), none] [] h (some (.int (-2 : Int32))) h0 := by
  refine xm_E_s r_X11_anew_0 rfl rfl ?_
  refine xm_E_cv [.ref l0] [] r_X11_anew_1 rfl rfl (Nat.le_of_ble_eq_true rfl) (xm_rc q1 (by decide)) rfl q0 ?_
  refine xm_E_s r_X11_anew_2 rfl rfl ?_
  refine xm_E_t q2 ?_
  refine xm_E_s r_X11_anew_3 rfl rfl ?_
  exact xm_E_iret r_X11_anew_4 rfl rfl
theorem p_X11_anew_0_1 {X : xm_X} {P : List xm_M} {d : Nat} {h : xm_H} {l0 : Nat} {h0 : xm_H} {r0 : Int32} {v1 : Nat} {n2 : Nat} (q0 : xm_V X P d 216 [.ref l0] h (some (.int r0)) h0) (q1 : X.1[l0]? = some (.inr 10)) (q2 : ¬ (r0 = (0 : Int32))) (q3 : h0.2.2 l0 1 = some v1) (q4 : X.1[v1]? = some (.inl (0, n2))) (q5 : 23 < n2) : xm_E X P d co_X11_anew 0 [some (.ref l0), none] [] h (some (.int (h0.1 v1 23))) (xm_si h0 v1 23 (0 : Int32)) := by
  refine xm_E_s r_X11_anew_0 rfl rfl ?_
  refine xm_E_cv [.ref l0] [] r_X11_anew_1 rfl rfl (Nat.le_of_ble_eq_true rfl) (xm_rc q1 (by decide)) rfl q0 ?_
  refine xm_E_s r_X11_anew_2 rfl rfl ?_
  refine xm_E_f q2 ?_
  refine xm_E_s r_X11_anew_5 rfl rfl ?_
  refine xm_E_s r_X11_anew_6 rfl (xm_T_gr rfl q1 rfl rfl q3) ?_
  refine xm_E_s r_X11_anew_7 rfl rfl ?_
  refine xm_E_s r_X11_anew_8 rfl (xm_T_iald rfl q4 (by decide) (fun e => e.elim (fun e => absurd e (by decide)) (fun e => Nat.not_le.mpr q5 e))) ?_
  refine xm_E_s (ls1 := [some (.ref l0), some (.int (h0.1 v1 23))]) r_X11_anew_9 rfl rfl ?_
  refine xm_E_s r_X11_anew_10 rfl rfl ?_
  refine xm_E_s r_X11_anew_11 rfl (xm_T_gr rfl q1 rfl rfl q3) ?_
  refine xm_E_s r_X11_anew_12 rfl rfl ?_
  refine xm_E_s r_X11_anew_13 rfl rfl ?_
  refine xm_E_s r_X11_anew_14 rfl (xm_T_asi rfl q4 (fun e => e.elim (fun e => absurd e (by decide)) (fun e => Nat.not_le.mpr q5 e))) ?_
  refine xm_E_s r_X11_anew_15 rfl rfl ?_
  exact xm_E_iret r_X11_anew_16 rfl rfl
theorem r_X11_plan_0 : co_X11_plan[0]? = some ((0, .aload_n 0, 0, 0, 0, 0, 0, 0, []) : xm_I) := rfl
theorem r_X11_plan_1 : co_X11_plan[1]? = some ((1, .iload_n 1, 0, 0, 0, 0, 0, 0, []) : xm_I) := rfl
theorem r_X11_plan_2 : co_X11_plan[2]? = some ((2, .iconst 1, 0, 0, 0, 0, 1, 0, []) : xm_I) := rfl
theorem r_X11_plan_3 : co_X11_plan[3]? = some ((3, .iconst 0, 0, 0, 0, 0, 0, 0, []) : xm_I) := rfl
theorem r_X11_plan_4 : co_X11_plan[4]? = some ((4, .invokevirtual 373, 1778, 252, 4, 10, 0, 0, []) : xm_I) := rfl
theorem r_X11_plan_5 : co_X11_plan[5]? = some ((7, .istore_n 2, 0, 0, 0, 0, 0, 0, []) : xm_I) := rfl
theorem r_X11_plan_6 : co_X11_plan[6]? = some ((8, .iload_n 2, 0, 0, 0, 0, 0, 0, []) : xm_I) := rfl
theorem r_X11_plan_7 : co_X11_plan[7]? = some ((9, .ifCond .ge 5, 0, 0, 10, 0, 0, 0, []) : xm_I) := rfl
theorem r_X11_plan_8 : co_X11_plan[8]? = some ((12, .iload_n 2, 0, 0, 0, 0, 0, 0, []) : xm_I) := rfl
theorem r_X11_plan_9 : co_X11_plan[9]? = some ((13, .ireturn, 0, 0, 0, 0, 0, 0, []) : xm_I) := rfl
theorem r_X11_plan_10 : co_X11_plan[10]? = some ((14, .aload_n 0, 0, 0, 0, 0, 0, 0, []) : xm_I) := rfl
theorem r_X11_plan_11 : co_X11_plan[11]? = some ((15, .iload_n 1, 0, 0, 0, 0, 0, 0, []) : xm_I) := rfl
theorem r_X11_plan_12 : co_X11_plan[12]? = some ((16, .invokevirtual 377, 1790, 255, 2, 10, 0, 0, []) : xm_I) := rfl
theorem r_X11_plan_13 : co_X11_plan[13]? = some ((19, .aload_n 0, 0, 0, 0, 0, 0, 0, []) : xm_I) := rfl
theorem r_X11_plan_14 : co_X11_plan[14]? = some ((20, .getfield 370, 1399, 10, 19, 0, 0, 0, []) : xm_I) := rfl
theorem r_X11_plan_15 : co_X11_plan[15]? = some ((23, .ireturn, 0, 0, 0, 0, 0, 0, []) : xm_I) := rfl
theorem p_X11_plan_0_0 {X : xm_X} {P : List xm_M} {d : Nat} {h : xm_H} {l0 : Nat} {l1 : Int32} {h0 : xm_H} {r0 : Int32} {h1 : xm_H} (q0 : xm_V X P d 252 [.ref l0, .int l1, .int (1 : Int32), .int (0 : Int32)] h (some (.int r0)) h0) (q1 : X.1[l0]? = some (.inr 10)) (q2 : (0 : Int32) ≤ r0) (q3 : xm_V X P d 255 [.ref l0, .int l1] h0 none h1) : xm_E X P d co_X11_plan 0 [some (.ref l0), some (.int l1), none] [] h (some (.int (h1.1 l0 19))) h1 := by
  refine xm_E_s r_X11_plan_0 rfl rfl ?_
  refine xm_E_s r_X11_plan_1 rfl rfl ?_
  refine xm_E_s r_X11_plan_2 rfl rfl ?_
  refine xm_E_s r_X11_plan_3 rfl rfl ?_
  refine xm_E_cv [.ref l0, .int l1, .int (1 : Int32), .int (0 : Int32)] [] r_X11_plan_4 rfl rfl (Nat.le_of_ble_eq_true rfl) (xm_rc q1 (by decide)) rfl q0 ?_
  refine xm_E_s (ls1 := [some (.ref l0), some (.int l1), some (.int r0)]) r_X11_plan_5 rfl rfl ?_
  refine xm_E_s r_X11_plan_6 rfl rfl ?_
  refine xm_E_s r_X11_plan_7 rfl rfl ?_
  refine xm_E_t q2 ?_
  refine xm_E_s r_X11_plan_10 rfl rfl ?_
  refine xm_E_s r_X11_plan_11 rfl rfl ?_
  refine xm_E_cv [.ref l0, .int l1] [] r_X11_plan_12 rfl rfl (Nat.le_of_ble_eq_true rfl) (xm_rc q1 (by decide)) rfl q3 ?_
  refine xm_E_s r_X11_plan_13 rfl rfl ?_
  refine xm_E_s r_X11_plan_14 rfl (xm_T_gi rfl q1 rfl (Or.inl rfl)) ?_
  exact xm_E_iret r_X11_plan_15 rfl rfl
theorem p_X11_plan_0_1 {X : xm_X} {P : List xm_M} {d : Nat} {h : xm_H} {l0 : Nat} {l1 : Int32} {h0 : xm_H} {r0 : Int32} (q0 : xm_V X P d 252 [.ref l0, .int l1, .int (1 : Int32), .int (0 : Int32)] h (some (.int r0)) h0) (q1 : X.1[l0]? = some (.inr 10)) (q2 : ¬ ((0 : Int32) ≤ r0)) : xm_E X P d co_X11_plan 0 [some (.ref l0), some (.int l1), none] [] h (some (.int r0)) h0 := by
  refine xm_E_s r_X11_plan_0 rfl rfl ?_
  refine xm_E_s r_X11_plan_1 rfl rfl ?_
  refine xm_E_s r_X11_plan_2 rfl rfl ?_
  refine xm_E_s r_X11_plan_3 rfl rfl ?_
  refine xm_E_cv [.ref l0, .int l1, .int (1 : Int32), .int (0 : Int32)] [] r_X11_plan_4 rfl rfl (Nat.le_of_ble_eq_true rfl) (xm_rc q1 (by decide)) rfl q0 ?_
  refine xm_E_s (ls1 := [some (.ref l0), some (.int l1), some (.int r0)]) r_X11_plan_5 rfl rfl ?_
  refine xm_E_s r_X11_plan_6 rfl rfl ?_
  refine xm_E_s r_X11_plan_7 rfl rfl ?_
  refine xm_E_f q2 ?_
  refine xm_E_s r_X11_plan_8 rfl rfl ?_
  exact xm_E_iret r_X11_plan_9 rfl rfl
theorem r_X11_asksRow_0 : co_X11_asksRow[0]? = some ((0, .iload_n 1, 0, 0, 0, 0, 0, 0, []) : xm_I) := rfl
theorem r_X11_asksRow_1 : co_X11_asksRow[1]? = some ((1, .invokestatic 357, 1782, 253, 1, 0, 0, 0, []) : xm_I) := rfl
theorem r_X11_asksRow_2 : co_X11_asksRow[2]? = some ((4, .ifCond .eq 14, 0, 0, 8, 0, 0, 0, []) : xm_I) := rfl
theorem r_X11_asksRow_3 : co_X11_asksRow[3]? = some ((7, .aload_n 0, 0, 0, 0, 0, 0, 0, []) : xm_I) := rfl
theorem r_X11_asksRow_4 : co_X11_asksRow[4]? = some ((8, .invokevirtual 324, 1643, 216, 1, 10, 0, 0, []) : xm_I) := rfl
theorem r_X11_asksRow_5 : co_X11_asksRow[5]? = some ((11, .ifCond .eq 7, 0, 0, 8, 0, 0, 0, []) : xm_I) := rfl
theorem r_X11_asksRow_6 : co_X11_asksRow[6]? = some ((14, .iload_n 2, 0, 0, 0, 0, 0, 0, []) : xm_I) := rfl
theorem r_X11_asksRow_7 : co_X11_asksRow[7]? = some ((15, .ifCond .ne 6, 0, 0, 10, 0, 0, 0, []) : xm_I) := rfl
theorem r_X11_asksRow_8 : co_X11_asksRow[8]? = some ((18, .bipush (-2), 0, 0, 0, 0, (-2), 0, []) : xm_I) := rfl
theorem r_X11_asksRow_9 : co_X11_asksRow[9]? = some ((20, .ireturn, 0, 0, 0, 0, 0, 0, []) : xm_I) := rfl
theorem r_X11_asksRow_10 : co_X11_asksRow[10]? = some ((21, .aload_n 0, 0, 0, 0, 0, 0, 0, []) : xm_I) := rfl
theorem r_X11_asksRow_11 : co_X11_asksRow[11]? = some ((22, .getfield 67, 1415, 10, 35, 2, 0, 0, []) : xm_I) := rfl
theorem r_X11_asksRow_12 : co_X11_asksRow[12]? = some ((25, .iload_n 1, 0, 0, 0, 0, 0, 0, []) : xm_I) := rfl
theorem r_X11_asksRow_13 : co_X11_asksRow[13]? = some ((26, .iaload, 0, 0, 0, 0, 0, 0, []) : xm_I) := rfl
theorem r_X11_asksRow_14 : co_X11_asksRow[14]? = some ((27, .iconst (-1), 0, 0, 0, 0, (-1), 0, []) : xm_I) := rfl
theorem r_X11_asksRow_15 : co_X11_asksRow[15]? = some ((28, .if_icmp .ne 6, 0, 0, 18, 0, 0, 0, []) : xm_I) := rfl
theorem r_X11_asksRow_16 : co_X11_asksRow[16]? = some ((31, .bipush (-6), 0, 0, 0, 0, (-6), 0, []) : xm_I) := rfl
theorem r_X11_asksRow_17 : co_X11_asksRow[17]? = some ((33, .ireturn, 0, 0, 0, 0, 0, 0, []) : xm_I) := rfl
theorem r_X11_asksRow_18 : co_X11_asksRow[18]? = some ((34, .iconst 0, 0, 0, 0, 0, 0, 0, []) : xm_I) := rfl
theorem r_X11_asksRow_19 : co_X11_asksRow[19]? = some ((35, .istore 4, 0, 0, 0, 0, 0, 0, []) : xm_I) := rfl
theorem r_X11_asksRow_20 : co_X11_asksRow[20]? = some ((37, .iload 4, 0, 0, 0, 0, 0, 0, []) : xm_I) := rfl
theorem r_X11_asksRow_21 : co_X11_asksRow[21]? = some ((39, .aload_n 0, 0, 0, 0, 0, 0, 0, []) : xm_I) := rfl
theorem r_X11_asksRow_22 : co_X11_asksRow[22]? = some ((40, .getfield 67, 1415, 10, 35, 2, 0, 0, []) : xm_I) := rfl
theorem r_X11_asksRow_23 : co_X11_asksRow[23]? = some ((43, .iload_n 1, 0, 0, 0, 0, 0, 0, []) : xm_I) := rfl
theorem r_X11_asksRow_24 : co_X11_asksRow[24]? = some ((44, .iaload, 0, 0, 0, 0, 0, 0, []) : xm_I) := rfl
theorem r_X11_asksRow_25 : co_X11_asksRow[25]? = some ((45, .if_icmp .ge 46, 0, 0, 46, 0, 0, 0, []) : xm_I) := rfl
theorem r_X11_asksRow_26 : co_X11_asksRow[26]? = some ((48, .iload_n 3, 0, 0, 0, 0, 0, 0, []) : xm_I) := rfl
theorem r_X11_asksRow_27 : co_X11_asksRow[27]? = some ((49, .ifCond .eq 20, 0, 0, 36, 0, 0, 0, []) : xm_I) := rfl
theorem r_X11_asksRow_28 : co_X11_asksRow[28]? = some ((52, .aload_n 0, 0, 0, 0, 0, 0, 0, []) : xm_I) := rfl
theorem r_X11_asksRow_29 : co_X11_asksRow[29]? = some ((53, .aload_n 0, 0, 0, 0, 0, 0, 0, []) : xm_I) := rfl
theorem r_X11_asksRow_30 : co_X11_asksRow[30]? = some ((54, .iload_n 1, 0, 0, 0, 0, 0, 0, []) : xm_I) := rfl
theorem r_X11_asksRow_31 : co_X11_asksRow[31]? = some ((55, .iload 4, 0, 0, 0, 0, 0, 0, []) : xm_I) := rfl
theorem r_X11_asksRow_32 : co_X11_asksRow[32]? = some ((57, .invokevirtual 360, 1786, 254, 3, 10, 0, 0, []) : xm_I) := rfl
theorem r_X11_asksRow_33 : co_X11_asksRow[33]? = some ((60, .invokevirtual 347, 1747, 244, 2, 10, 0, 0, []) : xm_I) := rfl
theorem r_X11_asksRow_34 : co_X11_asksRow[34]? = some ((63, .ifCond .ne 22, 0, 0, 44, 0, 0, 0, []) : xm_I) := rfl
theorem r_X11_asksRow_35 : co_X11_asksRow[35]? = some ((66, .goto 16, 0, 0, 42, 0, 0, 0, []) : xm_I) := rfl
theorem r_X11_asksRow_36 : co_X11_asksRow[36]? = some ((69, .aload_n 0, 0, 0, 0, 0, 0, 0, []) : xm_I) := rfl
theorem r_X11_asksRow_37 : co_X11_asksRow[37]? = some ((70, .iload_n 1, 0, 0, 0, 0, 0, 0, []) : xm_I) := rfl
theorem r_X11_asksRow_38 : co_X11_asksRow[38]? = some ((71, .iload 4, 0, 0, 0, 0, 0, 0, []) : xm_I) := rfl
theorem r_X11_asksRow_39 : co_X11_asksRow[39]? = some ((73, .invokevirtual 360, 1786, 254, 3, 10, 0, 0, []) : xm_I) := rfl
theorem r_X11_asksRow_40 : co_X11_asksRow[40]? = some ((76, .invokestatic 340, 1727, 239, 1, 0, 0, 0, []) : xm_I) := rfl
theorem r_X11_asksRow_41 : co_X11_asksRow[41]? = some ((79, .ifCond .ne 6, 0, 0, 44, 0, 0, 0, []) : xm_I) := rfl
theorem r_X11_asksRow_42 : co_X11_asksRow[42]? = some ((82, .bipush (-2), 0, 0, 0, 0, (-2), 0, []) : xm_I) := rfl
theorem r_X11_asksRow_43 : co_X11_asksRow[43]? = some ((84, .ireturn, 0, 0, 0, 0, 0, 0, []) : xm_I) := rfl
theorem r_X11_asksRow_44 : co_X11_asksRow[44]? = some ((85, .iinc 4 1, 0, 0, 0, 0, 1, 0, []) : xm_I) := rfl
theorem r_X11_asksRow_45 : co_X11_asksRow[45]? = some ((88, .goto (-51), 0, 0, 20, 0, 0, 0, []) : xm_I) := rfl
theorem r_X11_asksRow_46 : co_X11_asksRow[46]? = some ((91, .iconst 0, 0, 0, 0, 0, 0, 0, []) : xm_I) := rfl
theorem r_X11_asksRow_47 : co_X11_asksRow[47]? = some ((92, .ireturn, 0, 0, 0, 0, 0, 0, []) : xm_I) := rfl
theorem p_X11_asksRow_0_0 {X : xm_X} {P : List xm_M} {d : Nat} {h : xm_H} {l0 : Nat} {l1 : Int32} {l2 : Int32} {l3 : Int32} {h0 : xm_H} {r0 : Int32} (q0 : xm_V X P d 253 [.int l1] h (some (.int r0)) h0) (q1 : r0 = (0 : Int32)) : xm_E X P d co_X11_asksRow 0 [some (.ref l0), some (.int l1), some (.int l2), some (.int l3), none] [] h (some (.int (-2 : Int32))) h0 := by
  refine xm_E_s r_X11_asksRow_0 rfl rfl ?_
  refine xm_E_cs [.int l1] [] r_X11_asksRow_1 rfl rfl rfl (Nat.le_of_ble_eq_true rfl) rfl q0 ?_
  refine xm_E_s r_X11_asksRow_2 rfl rfl ?_
  refine xm_E_t q1 ?_
  refine xm_E_s r_X11_asksRow_8 rfl rfl ?_
  exact xm_E_iret r_X11_asksRow_9 rfl rfl
theorem p_X11_asksRow_0_1 {X : xm_X} {P : List xm_M} {d : Nat} {h : xm_H} {l0 : Nat} {l1 : Int32} {l2 : Int32} {l3 : Int32} {h0 : xm_H} {r0 : Int32} {h1 : xm_H} {r1 : Int32} (q0 : xm_V X P d 253 [.int l1] h (some (.int r0)) h0) (q1 : ¬ (r0 = (0 : Int32))) (q2 : xm_V X P d 216 [.ref l0] h0 (some (.int r1)) h1) (q3 : X.1[l0]? = some (.inr 10)) (q4 : r1 = (0 : Int32)) : xm_E X P d co_X11_asksRow 0 [some (.ref l0), some (.int l1), some (.int l2), some (.int l3), none] [] h (some (.int (-2 : Int32))) h1 := by
  refine xm_E_s r_X11_asksRow_0 rfl rfl ?_
  refine xm_E_cs [.int l1] [] r_X11_asksRow_1 rfl rfl rfl (Nat.le_of_ble_eq_true rfl) rfl q0 ?_
  refine xm_E_s r_X11_asksRow_2 rfl rfl ?_
  refine xm_E_f q1 ?_
  refine xm_E_s r_X11_asksRow_3 rfl rfl ?_
  refine xm_E_cv [.ref l0] [] r_X11_asksRow_4 rfl rfl (Nat.le_of_ble_eq_true rfl) (xm_rc q3 (by decide)) rfl q2 ?_
  refine xm_E_s r_X11_asksRow_5 rfl rfl ?_
  refine xm_E_t q4 ?_
  refine xm_E_s r_X11_asksRow_8 rfl rfl ?_
  exact xm_E_iret r_X11_asksRow_9 rfl rfl
theorem p_X11_asksRow_0_2 {X : xm_X} {P : List xm_M} {d : Nat} {h : xm_H} {l0 : Nat} {l1 : Int32} {l2 : Int32} {l3 : Int32} {h0 : xm_H} {r0 : Int32} {h1 : xm_H} {r1 : Int32} (q0 : xm_V X P d 253 [.int l1] h (some (.int r0)) h0) (q1 : ¬ (r0 = (0 : Int32))) (q2 : xm_V X P d 216 [.ref l0] h0 (some (.int r1)) h1) (q3 : X.1[l0]? = some (.inr 10)) (q4 : ¬ (r1 = (0 : Int32))) (q5 : l2 = (0 : Int32)) : xm_E X P d co_X11_asksRow 0 [some (.ref l0), some (.int l1), some (.int l2), some (.int l3), none] [] h (some (.int (-2 : Int32))) h1 := by
  refine xm_E_s r_X11_asksRow_0 rfl rfl ?_
  refine xm_E_cs [.int l1] [] r_X11_asksRow_1 rfl rfl rfl (Nat.le_of_ble_eq_true rfl) rfl q0 ?_
  refine xm_E_s r_X11_asksRow_2 rfl rfl ?_
  refine xm_E_f q1 ?_
  refine xm_E_s r_X11_asksRow_3 rfl rfl ?_
  refine xm_E_cv [.ref l0] [] r_X11_asksRow_4 rfl rfl (Nat.le_of_ble_eq_true rfl) (xm_rc q3 (by decide)) rfl q2 ?_
  refine xm_E_s r_X11_asksRow_5 rfl rfl ?_
  refine xm_E_f q4 ?_
  refine xm_E_s r_X11_asksRow_6 rfl rfl ?_
  refine xm_E_s r_X11_asksRow_7 rfl rfl ?_
  refine xm_E_t q5 ?_
  refine xm_E_s r_X11_asksRow_8 rfl rfl ?_
  exact xm_E_iret r_X11_asksRow_9 rfl rfl
theorem p_X11_asksRow_0_3 {X : xm_X} {P : List xm_M} {d : Nat} {h : xm_H} {l0 : Nat} {l1 : Int32} {l2 : Int32} {l3 : Int32} {h0 : xm_H} {r0 : Int32} {h1 : xm_H} {r1 : Int32} {v2 : Nat} {n3 : Nat} (q0 : xm_V X P d 253 [.int l1] h (some (.int r0)) h0) (q1 : ¬ (r0 = (0 : Int32))) (q2 : xm_V X P d 216 [.ref l0] h0 (some (.int r1)) h1) (q3 : X.1[l0]? = some (.inr 10)) (q4 : ¬ (r1 = (0 : Int32))) (q5 : ¬ (l2 = (0 : Int32))) (q6 : h1.2.2 l0 35 = some v2) (q7 : X.1[v2]? = some (.inl (0, n3))) (q8 : ¬ (l1 < 0 ∨ n3 ≤ l1.toNatClampNeg)) (q9 : h1.1 v2 l1.toNatClampNeg = (-1 : Int32)) : xm_E X P d co_X11_asksRow 0 [some (.ref l0), some (.int l1), some (.int l2), some (.int l3), none] [] h (some (.int (-6 : Int32))) h1 := by
  refine xm_E_s r_X11_asksRow_0 rfl rfl ?_
  refine xm_E_cs [.int l1] [] r_X11_asksRow_1 rfl rfl rfl (Nat.le_of_ble_eq_true rfl) rfl q0 ?_
  refine xm_E_s r_X11_asksRow_2 rfl rfl ?_
  refine xm_E_f q1 ?_
  refine xm_E_s r_X11_asksRow_3 rfl rfl ?_
  refine xm_E_cv [.ref l0] [] r_X11_asksRow_4 rfl rfl (Nat.le_of_ble_eq_true rfl) (xm_rc q3 (by decide)) rfl q2 ?_
  refine xm_E_s r_X11_asksRow_5 rfl rfl ?_
  refine xm_E_f q4 ?_
  refine xm_E_s r_X11_asksRow_6 rfl rfl ?_
  refine xm_E_s r_X11_asksRow_7 rfl rfl ?_
  refine xm_E_f q5 ?_
  refine xm_E_s r_X11_asksRow_10 rfl rfl ?_
  refine xm_E_s r_X11_asksRow_11 rfl (xm_T_gr rfl q3 rfl rfl q6) ?_
  refine xm_E_s r_X11_asksRow_12 rfl rfl ?_
  refine xm_E_s r_X11_asksRow_13 rfl (xm_T_iald rfl q7 (by decide) q8) ?_
  refine xm_E_s r_X11_asksRow_14 rfl rfl ?_
  refine xm_E_s r_X11_asksRow_15 rfl rfl ?_
  refine xm_E_t q9 ?_
  refine xm_E_s r_X11_asksRow_16 rfl rfl ?_
  exact xm_E_iret r_X11_asksRow_17 rfl rfl
theorem p_X11_asksRow_0_4 {X : xm_X} {P : List xm_M} {d : Nat} {h : xm_H} {l0 : Nat} {l1 : Int32} {l2 : Int32} {l3 : Int32} {h0 : xm_H} {r0 : Int32} {h1 : xm_H} {r1 : Int32} {v2 : Nat} {n3 : Nat} {ro : Option Value} {ho : xm_H} (q0 : xm_V X P d 253 [.int l1] h (some (.int r0)) h0) (q1 : ¬ (r0 = (0 : Int32))) (q2 : xm_V X P d 216 [.ref l0] h0 (some (.int r1)) h1) (q3 : X.1[l0]? = some (.inr 10)) (q4 : ¬ (r1 = (0 : Int32))) (q5 : ¬ (l2 = (0 : Int32))) (q6 : h1.2.2 l0 35 = some v2) (q7 : X.1[v2]? = some (.inl (0, n3))) (q8 : ¬ (l1 < 0 ∨ n3 ≤ l1.toNatClampNeg)) (q9 : ¬ (h1.1 v2 l1.toNatClampNeg = (-1 : Int32))) (K : xm_E X P d co_X11_asksRow 20 [some (.ref l0), some (.int l1), some (.int l2), some (.int l3), some (.int (0 : Int32))] [] h1 ro ho) : xm_E X P d co_X11_asksRow 0 [some (.ref l0), some (.int l1), some (.int l2), some (.int l3), none] [] h ro ho := by
  refine xm_E_s r_X11_asksRow_0 rfl rfl ?_
  refine xm_E_cs [.int l1] [] r_X11_asksRow_1 rfl rfl rfl (Nat.le_of_ble_eq_true rfl) rfl q0 ?_
  refine xm_E_s r_X11_asksRow_2 rfl rfl ?_
  refine xm_E_f q1 ?_
  refine xm_E_s r_X11_asksRow_3 rfl rfl ?_
  refine xm_E_cv [.ref l0] [] r_X11_asksRow_4 rfl rfl (Nat.le_of_ble_eq_true rfl) (xm_rc q3 (by decide)) rfl q2 ?_
  refine xm_E_s r_X11_asksRow_5 rfl rfl ?_
  refine xm_E_f q4 ?_
  refine xm_E_s r_X11_asksRow_6 rfl rfl ?_
  refine xm_E_s r_X11_asksRow_7 rfl rfl ?_
  refine xm_E_f q5 ?_
  refine xm_E_s r_X11_asksRow_10 rfl rfl ?_
  refine xm_E_s r_X11_asksRow_11 rfl (xm_T_gr rfl q3 rfl rfl q6) ?_
  refine xm_E_s r_X11_asksRow_12 rfl rfl ?_
  refine xm_E_s r_X11_asksRow_13 rfl (xm_T_iald rfl q7 (by decide) q8) ?_
  refine xm_E_s r_X11_asksRow_14 rfl rfl ?_
  refine xm_E_s r_X11_asksRow_15 rfl rfl ?_
  refine xm_E_f q9 ?_
  refine xm_E_s r_X11_asksRow_18 rfl rfl ?_
  refine xm_E_s (ls1 := [some (.ref l0), some (.int l1), some (.int l2), some (.int l3), some (.int (0 : Int32))]) r_X11_asksRow_19 rfl rfl ?_
  exact K
theorem p_X11_asksRow_20_0 {X : xm_X} {P : List xm_M} {d : Nat} {h : xm_H} {l0 : Nat} {l1 : Int32} {l2 : Int32} {l3 : Int32} {l4 : Int32} {v0 : Nat} {n1 : Nat} (q0 : X.1[l0]? = some (.inr 10)) (q1 : h.2.2 l0 35 = some v0) (q2 : X.1[v0]? = some (.inl (0, n1))) (q3 : ¬ (l1 < 0 ∨ n1 ≤ l1.toNatClampNeg)) (q4 : h.1 v0 l1.toNatClampNeg ≤ l4) : xm_E X P d co_X11_asksRow 20 [some (.ref l0), some (.int l1), some (.int l2), some (.int l3), some (.int l4)] [] h (some (.int (0 : Int32))) h := by
  refine xm_E_s r_X11_asksRow_20 rfl rfl ?_
  refine xm_E_s r_X11_asksRow_21 rfl rfl ?_
  refine xm_E_s r_X11_asksRow_22 rfl (xm_T_gr rfl q0 rfl rfl q1) ?_
  refine xm_E_s r_X11_asksRow_23 rfl rfl ?_
  refine xm_E_s r_X11_asksRow_24 rfl (xm_T_iald rfl q2 (by decide) q3) ?_
  refine xm_E_s r_X11_asksRow_25 rfl rfl ?_
  refine xm_E_t q4 ?_
  refine xm_E_s r_X11_asksRow_46 rfl rfl ?_
  exact xm_E_iret r_X11_asksRow_47 rfl rfl
theorem p_X11_asksRow_20_1 {X : xm_X} {P : List xm_M} {d : Nat} {h : xm_H} {l0 : Nat} {l1 : Int32} {l2 : Int32} {l3 : Int32} {l4 : Int32} {v0 : Nat} {n1 : Nat} {h2 : xm_H} {r2 : Int64} {h3 : xm_H} {r3 : Int32} (q0 : X.1[l0]? = some (.inr 10)) (q1 : h.2.2 l0 35 = some v0) (q2 : X.1[v0]? = some (.inl (0, n1))) (q3 : ¬ (l1 < 0 ∨ n1 ≤ l1.toNatClampNeg)) (q4 : ¬ (h.1 v0 l1.toNatClampNeg ≤ l4)) (q5 : l3 = (0 : Int32)) (q6 : xm_V X P d 254 [.ref l0, .int l1, .int l4] h (some (.long r2)) h2) (q7 : xm_V X P d 239 [.long r2] h2 (some (.int r3)) h3) (q8 : r3 = (0 : Int32)) : xm_E X P d co_X11_asksRow 20 [some (.ref l0), some (.int l1), some (.int l2), some (.int l3), some (.int l4)] [] h (some (.int (-2 : Int32))) h3 := by
  refine xm_E_s r_X11_asksRow_20 rfl rfl ?_
  refine xm_E_s r_X11_asksRow_21 rfl rfl ?_
  refine xm_E_s r_X11_asksRow_22 rfl (xm_T_gr rfl q0 rfl rfl q1) ?_
  refine xm_E_s r_X11_asksRow_23 rfl rfl ?_
  refine xm_E_s r_X11_asksRow_24 rfl (xm_T_iald rfl q2 (by decide) q3) ?_
  refine xm_E_s r_X11_asksRow_25 rfl rfl ?_
  refine xm_E_f q4 ?_
  refine xm_E_s r_X11_asksRow_26 rfl rfl ?_
  refine xm_E_s r_X11_asksRow_27 rfl rfl ?_
  refine xm_E_t q5 ?_
  refine xm_E_s r_X11_asksRow_36 rfl rfl ?_
  refine xm_E_s r_X11_asksRow_37 rfl rfl ?_
  refine xm_E_s r_X11_asksRow_38 rfl rfl ?_
  refine xm_E_cv [.ref l0, .int l1, .int l4] [] r_X11_asksRow_39 rfl rfl (Nat.le_of_ble_eq_true rfl) (xm_rc q0 (by decide)) rfl q6 ?_
  refine xm_E_cs [.long r2] [] r_X11_asksRow_40 rfl rfl rfl (Nat.le_of_ble_eq_true rfl) rfl q7 ?_
  refine xm_E_s r_X11_asksRow_41 rfl rfl ?_
  refine xm_E_t q8 ?_
  refine xm_E_s r_X11_asksRow_42 rfl rfl ?_
  exact xm_E_iret r_X11_asksRow_43 rfl rfl
theorem p_X11_asksRow_20_2 {X : xm_X} {P : List xm_M} {d : Nat} {h : xm_H} {l0 : Nat} {l1 : Int32} {l2 : Int32} {l3 : Int32} {l4 : Int32} {v0 : Nat} {n1 : Nat} {h2 : xm_H} {r2 : Int64} {h3 : xm_H} {r3 : Int32} {ro : Option Value} {ho : xm_H} (q0 : X.1[l0]? = some (.inr 10)) (q1 : h.2.2 l0 35 = some v0) (q2 : X.1[v0]? = some (.inl (0, n1))) (q3 : ¬ (l1 < 0 ∨ n1 ≤ l1.toNatClampNeg)) (q4 : ¬ (h.1 v0 l1.toNatClampNeg ≤ l4)) (q5 : l3 = (0 : Int32)) (q6 : xm_V X P d 254 [.ref l0, .int l1, .int l4] h (some (.long r2)) h2) (q7 : xm_V X P d 239 [.long r2] h2 (some (.int r3)) h3) (q8 : ¬ (r3 = (0 : Int32))) (K : xm_E X P d co_X11_asksRow 20 [some (.ref l0), some (.int l1), some (.int l2), some (.int l3), some (.int (l4 + (1 : Int32)))] [] h3 ro ho) : xm_E X P d co_X11_asksRow 20 [some (.ref l0), some (.int l1), some (.int l2), some (.int l3), some (.int l4)] [] h ro ho := by
  refine xm_E_s r_X11_asksRow_20 rfl rfl ?_
  refine xm_E_s r_X11_asksRow_21 rfl rfl ?_
  refine xm_E_s r_X11_asksRow_22 rfl (xm_T_gr rfl q0 rfl rfl q1) ?_
  refine xm_E_s r_X11_asksRow_23 rfl rfl ?_
  refine xm_E_s r_X11_asksRow_24 rfl (xm_T_iald rfl q2 (by decide) q3) ?_
  refine xm_E_s r_X11_asksRow_25 rfl rfl ?_
  refine xm_E_f q4 ?_
  refine xm_E_s r_X11_asksRow_26 rfl rfl ?_
  refine xm_E_s r_X11_asksRow_27 rfl rfl ?_
  refine xm_E_t q5 ?_
  refine xm_E_s r_X11_asksRow_36 rfl rfl ?_
  refine xm_E_s r_X11_asksRow_37 rfl rfl ?_
  refine xm_E_s r_X11_asksRow_38 rfl rfl ?_
  refine xm_E_cv [.ref l0, .int l1, .int l4] [] r_X11_asksRow_39 rfl rfl (Nat.le_of_ble_eq_true rfl) (xm_rc q0 (by decide)) rfl q6 ?_
  refine xm_E_cs [.long r2] [] r_X11_asksRow_40 rfl rfl rfl (Nat.le_of_ble_eq_true rfl) rfl q7 ?_
  refine xm_E_s r_X11_asksRow_41 rfl rfl ?_
  refine xm_E_f q8 ?_
  refine xm_E_s (ls1 := [some (.ref l0), some (.int l1), some (.int l2), some (.int l3), some (.int (l4 + (1 : Int32)))]) r_X11_asksRow_44 rfl rfl ?_
  refine xm_E_s r_X11_asksRow_45 rfl rfl ?_
  exact K
theorem p_X11_asksRow_20_3 {X : xm_X} {P : List xm_M} {d : Nat} {h : xm_H} {l0 : Nat} {l1 : Int32} {l2 : Int32} {l3 : Int32} {l4 : Int32} {v0 : Nat} {n1 : Nat} {h2 : xm_H} {r2 : Int64} {h3 : xm_H} {r3 : Int32} (q0 : X.1[l0]? = some (.inr 10)) (q1 : h.2.2 l0 35 = some v0) (q2 : X.1[v0]? = some (.inl (0, n1))) (q3 : ¬ (l1 < 0 ∨ n1 ≤ l1.toNatClampNeg)) (q4 : ¬ (h.1 v0 l1.toNatClampNeg ≤ l4)) (q5 : ¬ (l3 = (0 : Int32))) (q6 : xm_V X P d 254 [.ref l0, .int l1, .int l4] h (some (.long r2)) h2) (q7 : xm_V X P d 244 [.ref l0, .long r2] h2 (some (.int r3)) h3) (q8 : r3 = (0 : Int32)) : xm_E X P d co_X11_asksRow 20 [some (.ref l0), some (.int l1), some (.int l2), some (.int l3), some (.int l4)] [] h (some (.int (-2 : Int32))) h3 := by
  refine xm_E_s r_X11_asksRow_20 rfl rfl ?_
  refine xm_E_s r_X11_asksRow_21 rfl rfl ?_
  refine xm_E_s r_X11_asksRow_22 rfl (xm_T_gr rfl q0 rfl rfl q1) ?_
  refine xm_E_s r_X11_asksRow_23 rfl rfl ?_
  refine xm_E_s r_X11_asksRow_24 rfl (xm_T_iald rfl q2 (by decide) q3) ?_
  refine xm_E_s r_X11_asksRow_25 rfl rfl ?_
  refine xm_E_f q4 ?_
  refine xm_E_s r_X11_asksRow_26 rfl rfl ?_
  refine xm_E_s r_X11_asksRow_27 rfl rfl ?_
  refine xm_E_f q5 ?_
  refine xm_E_s r_X11_asksRow_28 rfl rfl ?_
  refine xm_E_s r_X11_asksRow_29 rfl rfl ?_
  refine xm_E_s r_X11_asksRow_30 rfl rfl ?_
  refine xm_E_s r_X11_asksRow_31 rfl rfl ?_
  refine xm_E_cv [.ref l0, .int l1, .int l4] [.ref l0] r_X11_asksRow_32 rfl rfl (Nat.le_of_ble_eq_true rfl) (xm_rc q0 (by decide)) rfl q6 ?_
  refine xm_E_cv [.ref l0, .long r2] [] r_X11_asksRow_33 rfl rfl (Nat.le_of_ble_eq_true rfl) (xm_rc q0 (by decide)) rfl q7 ?_
  refine xm_E_s r_X11_asksRow_34 rfl rfl ?_
  refine xm_E_t q8 ?_
  refine xm_E_s r_X11_asksRow_35 rfl rfl ?_
  refine xm_E_s r_X11_asksRow_42 rfl rfl ?_
  exact xm_E_iret r_X11_asksRow_43 rfl rfl
theorem p_X11_asksRow_20_4 {X : xm_X} {P : List xm_M} {d : Nat} {h : xm_H} {l0 : Nat} {l1 : Int32} {l2 : Int32} {l3 : Int32} {l4 : Int32} {v0 : Nat} {n1 : Nat} {h2 : xm_H} {r2 : Int64} {h3 : xm_H} {r3 : Int32} {ro : Option Value} {ho : xm_H} (q0 : X.1[l0]? = some (.inr 10)) (q1 : h.2.2 l0 35 = some v0) (q2 : X.1[v0]? = some (.inl (0, n1))) (q3 : ¬ (l1 < 0 ∨ n1 ≤ l1.toNatClampNeg)) (q4 : ¬ (h.1 v0 l1.toNatClampNeg ≤ l4)) (q5 : ¬ (l3 = (0 : Int32))) (q6 : xm_V X P d 254 [.ref l0, .int l1, .int l4] h (some (.long r2)) h2) (q7 : xm_V X P d 244 [.ref l0, .long r2] h2 (some (.int r3)) h3) (q8 : ¬ (r3 = (0 : Int32))) (K : xm_E X P d co_X11_asksRow 20 [some (.ref l0), some (.int l1), some (.int l2), some (.int l3), some (.int (l4 + (1 : Int32)))] [] h3 ro ho) : xm_E X P d co_X11_asksRow 20 [some (.ref l0), some (.int l1), some (.int l2), some (.int l3), some (.int l4)] [] h ro ho := by
  refine xm_E_s r_X11_asksRow_20 rfl rfl ?_
  refine xm_E_s r_X11_asksRow_21 rfl rfl ?_
  refine xm_E_s r_X11_asksRow_22 rfl (xm_T_gr rfl q0 rfl rfl q1) ?_
  refine xm_E_s r_X11_asksRow_23 rfl rfl ?_
  refine xm_E_s r_X11_asksRow_24 rfl (xm_T_iald rfl q2 (by decide) q3) ?_
  refine xm_E_s r_X11_asksRow_25 rfl rfl ?_
  refine xm_E_f q4 ?_
  refine xm_E_s r_X11_asksRow_26 rfl rfl ?_
  refine xm_E_s r_X11_asksRow_27 rfl rfl ?_
  refine xm_E_f q5 ?_
  refine xm_E_s r_X11_asksRow_28 rfl rfl ?_
  refine xm_E_s r_X11_asksRow_29 rfl rfl ?_
  refine xm_E_s r_X11_asksRow_30 rfl rfl ?_
  refine xm_E_s r_X11_asksRow_31 rfl rfl ?_
  refine xm_E_cv [.ref l0, .int l1, .int l4] [.ref l0] r_X11_asksRow_32 rfl rfl (Nat.le_of_ble_eq_true rfl) (xm_rc q0 (by decide)) rfl q6 ?_
  refine xm_E_cv [.ref l0, .long r2] [] r_X11_asksRow_33 rfl rfl (Nat.le_of_ble_eq_true rfl) (xm_rc q0 (by decide)) rfl q7 ?_
  refine xm_E_s r_X11_asksRow_34 rfl rfl ?_
  refine xm_E_f q8 ?_
  refine xm_E_s (ls1 := [some (.ref l0), some (.int l1), some (.int l2), some (.int l3), some (.int (l4 + (1 : Int32)))]) r_X11_asksRow_44 rfl rfl ?_
  refine xm_E_s r_X11_asksRow_45 rfl rfl ?_
  exact K
theorem r_X11_isSlot_0 : co_X11_isSlot[0]? = some ((0, .iload_n 0, 0, 0, 0, 0, 0, 0, []) : xm_I) := rfl
theorem r_X11_isSlot_1 : co_X11_isSlot[1]? = some ((1, .i2l, 0, 0, 0, 0, 0, 0, []) : xm_I) := rfl
theorem r_X11_isSlot_2 : co_X11_isSlot[2]? = some ((2, .lconst 0, 0, 0, 0, 0, 0, 0, []) : xm_I) := rfl
theorem r_X11_isSlot_3 : co_X11_isSlot[3]? = some ((3, .ldc2_w 536, 1785, 0, 0, 0, 0, 3, []) : xm_I) := rfl
theorem r_X11_isSlot_4 : co_X11_isSlot[4]? = some ((6, .invokestatic 84, 1503, 191, 3, 0, 0, 0, []) : xm_I) := rfl
theorem r_X11_isSlot_5 : co_X11_isSlot[5]? = some ((9, .ireturn, 0, 0, 0, 3, 0, 0, []) : xm_I) := rfl
theorem p_X11_isSlot_0_0 {X : xm_X} {P : List xm_M} {d : Nat} {h : xm_H} {l0 : Int32} {h0 : xm_H} {r0 : Int32} (q0 : xm_V X P d 191 [.long l0.toInt64, .long (0 : Int64), .long (3 : Int64)] h (some (.int r0)) h0) (q1 : xm_okr 3 r0 = true) : xm_E X P d co_X11_isSlot 0 [some (.int l0)] [] h (some (.int r0)) h0 := by
  refine xm_E_s r_X11_isSlot_0 rfl rfl ?_
  refine xm_E_s r_X11_isSlot_1 rfl rfl ?_
  refine xm_E_s r_X11_isSlot_2 rfl rfl ?_
  refine xm_E_s r_X11_isSlot_3 rfl rfl ?_
  refine xm_E_cs [.long l0.toInt64, .long (0 : Int64), .long (3 : Int64)] [] r_X11_isSlot_4 rfl rfl rfl (Nat.le_of_ble_eq_true rfl) rfl q0 ?_
  exact xm_E_iret r_X11_isSlot_5 rfl q1
theorem r_X11_numberAt_0 : co_X11_numberAt[0]? = some ((0, .aload_n 0, 0, 0, 0, 0, 0, 0, []) : xm_I) := rfl
theorem r_X11_numberAt_1 : co_X11_numberAt[1]? = some ((1, .getfield 73, 1417, 10, 37, 2, 0, 0, []) : xm_I) := rfl
theorem r_X11_numberAt_2 : co_X11_numberAt[2]? = some ((4, .bipush 60, 0, 0, 0, 0, 60, 0, []) : xm_I) := rfl
theorem r_X11_numberAt_3 : co_X11_numberAt[3]? = some ((6, .iload_n 1, 0, 0, 0, 0, 0, 0, []) : xm_I) := rfl
theorem r_X11_numberAt_4 : co_X11_numberAt[4]? = some ((7, .imul, 0, 0, 0, 0, 0, 0, []) : xm_I) := rfl
theorem r_X11_numberAt_5 : co_X11_numberAt[5]? = some ((8, .iload_n 2, 0, 0, 0, 0, 0, 0, []) : xm_I) := rfl
theorem r_X11_numberAt_6 : co_X11_numberAt[6]? = some ((9, .iadd, 0, 0, 0, 0, 0, 0, []) : xm_I) := rfl
theorem r_X11_numberAt_7 : co_X11_numberAt[7]? = some ((10, .laload, 0, 0, 0, 0, 0, 0, []) : xm_I) := rfl
theorem r_X11_numberAt_8 : co_X11_numberAt[8]? = some ((11, .lreturn, 0, 0, 0, 0, 0, 0, []) : xm_I) := rfl
theorem p_X11_numberAt_0_0 {X : xm_X} {P : List xm_M} {d : Nat} {h : xm_H} {l0 : Nat} {l1 : Int32} {l2 : Int32} {v0 : Nat} {n1 : Nat} (q0 : X.1[l0]? = some (.inr 10)) (q1 : h.2.2 l0 37 = some v0) (q2 : X.1[v0]? = some (.inl (3, n1))) (q3 : ¬ (((60 : Int32) * l1) + l2 < 0 ∨ n1 ≤ (((60 : Int32) * l1) + l2).toNatClampNeg)) : xm_E X P d co_X11_numberAt 0 [some (.ref l0), some (.int l1), some (.int l2)] [] h (some (.long (h.2.1 v0 ((((60 : Int32) * l1) + l2).toNatClampNeg)))) h := by
  refine xm_E_s r_X11_numberAt_0 rfl rfl ?_
  refine xm_E_s r_X11_numberAt_1 rfl (xm_T_gr rfl q0 rfl rfl q1) ?_
  refine xm_E_s r_X11_numberAt_2 rfl rfl ?_
  refine xm_E_s r_X11_numberAt_3 rfl rfl ?_
  refine xm_E_s r_X11_numberAt_4 rfl rfl ?_
  refine xm_E_s r_X11_numberAt_5 rfl rfl ?_
  refine xm_E_s r_X11_numberAt_6 rfl rfl ?_
  refine xm_E_s r_X11_numberAt_7 rfl (xm_T_lald rfl q2 q3) ?_
  exact xm_E_lret r_X11_numberAt_8 rfl
theorem r_X11_plans_0 : co_X11_plans[0]? = some ((0, .aload_n 0, 0, 0, 0, 0, 0, 0, []) : xm_I) := rfl
theorem r_X11_plans_1 : co_X11_plans[1]? = some ((1, .aload_n 0, 0, 0, 0, 0, 0, 0, []) : xm_I) := rfl
theorem r_X11_plans_2 : co_X11_plans[2]? = some ((2, .invokevirtual 331, 1651, 218, 1, 10, 0, 0, []) : xm_I) := rfl
theorem r_X11_plans_3 : co_X11_plans[3]? = some ((5, .putfield 364, 1397, 10, 17, 0, 0, 0, []) : xm_I) := rfl
theorem r_X11_plans_4 : co_X11_plans[4]? = some ((8, .aload_n 0, 0, 0, 0, 0, 0, 0, []) : xm_I) := rfl
theorem r_X11_plans_5 : co_X11_plans[5]? = some ((9, .aload_n 0, 0, 0, 0, 0, 0, 0, []) : xm_I) := rfl
theorem r_X11_plans_6 : co_X11_plans[6]? = some ((10, .invokevirtual 334, 1700, 232, 1, 10, 0, 0, []) : xm_I) := rfl
theorem r_X11_plans_7 : co_X11_plans[7]? = some ((13, .putfield 367, 1398, 10, 18, 0, 0, 0, []) : xm_I) := rfl
theorem r_X11_plans_8 : co_X11_plans[8]? = some ((16, .aload_n 0, 0, 0, 0, 0, 0, 0, []) : xm_I) := rfl
theorem r_X11_plans_9 : co_X11_plans[9]? = some ((17, .iconst 0, 0, 0, 0, 0, 0, 0, []) : xm_I) := rfl
theorem r_X11_plans_10 : co_X11_plans[10]? = some ((18, .putfield 370, 1399, 10, 19, 0, 0, 0, []) : xm_I) := rfl
theorem r_X11_plans_11 : co_X11_plans[11]? = some ((21, .iconst 0, 0, 0, 0, 0, 0, 0, []) : xm_I) := rfl
theorem r_X11_plans_12 : co_X11_plans[12]? = some ((22, .istore_n 2, 0, 0, 0, 0, 0, 0, []) : xm_I) := rfl
theorem r_X11_plans_13 : co_X11_plans[13]? = some ((23, .iload_n 2, 0, 0, 0, 0, 0, 0, []) : xm_I) := rfl
theorem r_X11_plans_14 : co_X11_plans[14]? = some ((24, .aload_n 0, 0, 0, 0, 0, 0, 0, []) : xm_I) := rfl
theorem r_X11_plans_15 : co_X11_plans[15]? = some ((25, .getfield 67, 1415, 10, 35, 2, 0, 0, []) : xm_I) := rfl
theorem r_X11_plans_16 : co_X11_plans[16]? = some ((28, .iload_n 1, 0, 0, 0, 0, 0, 0, []) : xm_I) := rfl
theorem r_X11_plans_17 : co_X11_plans[17]? = some ((29, .iaload, 0, 0, 0, 0, 0, 0, []) : xm_I) := rfl
theorem r_X11_plans_18 : co_X11_plans[18]? = some ((30, .if_icmp .ge 66, 0, 0, 56, 0, 0, 0, []) : xm_I) := rfl
theorem r_X11_plans_19 : co_X11_plans[19]? = some ((33, .aload_n 0, 0, 0, 0, 0, 0, 0, []) : xm_I) := rfl
theorem r_X11_plans_20 : co_X11_plans[20]? = some ((34, .aload_n 0, 0, 0, 0, 0, 0, 0, []) : xm_I) := rfl
theorem r_X11_plans_21 : co_X11_plans[21]? = some ((35, .getfield 364, 1397, 10, 17, 0, 0, 0, []) : xm_I) := rfl
theorem r_X11_plans_22 : co_X11_plans[22]? = some ((38, .aload_n 0, 0, 0, 0, 0, 0, 0, []) : xm_I) := rfl
theorem r_X11_plans_23 : co_X11_plans[23]? = some ((39, .iload_n 1, 0, 0, 0, 0, 0, 0, []) : xm_I) := rfl
theorem r_X11_plans_24 : co_X11_plans[24]? = some ((40, .iload_n 2, 0, 0, 0, 0, 0, 0, []) : xm_I) := rfl
theorem r_X11_plans_25 : co_X11_plans[25]? = some ((41, .invokevirtual 360, 1786, 254, 3, 10, 0, 0, []) : xm_I) := rfl
theorem r_X11_plans_26 : co_X11_plans[26]? = some ((44, .l2i, 0, 0, 0, 0, 0, 0, []) : xm_I) := rfl
theorem r_X11_plans_27 : co_X11_plans[27]? = some ((45, .invokevirtual 297, 1670, 223, 3, 10, 0, 0, []) : xm_I) := rfl
theorem r_X11_plans_28 : co_X11_plans[28]? = some ((48, .istore_n 3, 0, 0, 0, 0, 0, 0, []) : xm_I) := rfl
theorem r_X11_plans_29 : co_X11_plans[29]? = some ((49, .iload_n 3, 0, 0, 0, 0, 0, 0, []) : xm_I) := rfl
theorem r_X11_plans_30 : co_X11_plans[30]? = some ((50, .iconst (-1), 0, 0, 0, 0, (-1), 0, []) : xm_I) := rfl
theorem r_X11_plans_31 : co_X11_plans[31]? = some ((51, .if_icmp .ne 4, 0, 0, 33, 0, 0, 0, []) : xm_I) := rfl
theorem r_X11_plans_32 : co_X11_plans[32]? = some ((54, .return_, 0, 0, 0, 0, 0, 0, []) : xm_I) := rfl
theorem r_X11_plans_33 : co_X11_plans[33]? = some ((55, .aload_n 0, 0, 0, 0, 0, 0, 0, []) : xm_I) := rfl
theorem r_X11_plans_34 : co_X11_plans[34]? = some ((56, .iload_n 3, 0, 0, 0, 0, 0, 0, []) : xm_I) := rfl
theorem r_X11_plans_35 : co_X11_plans[35]? = some ((57, .putfield 364, 1397, 10, 17, 0, 0, 0, []) : xm_I) := rfl
theorem r_X11_plans_36 : co_X11_plans[36]? = some ((60, .aload_n 0, 0, 0, 0, 0, 0, 0, []) : xm_I) := rfl
theorem r_X11_plans_37 : co_X11_plans[37]? = some ((61, .dup, 0, 0, 0, 0, 0, 0, []) : xm_I) := rfl
theorem r_X11_plans_38 : co_X11_plans[38]? = some ((62, .getfield 367, 1398, 10, 18, 0, 0, 0, []) : xm_I) := rfl
theorem r_X11_plans_39 : co_X11_plans[39]? = some ((65, .aload_n 0, 0, 0, 0, 0, 0, 0, []) : xm_I) := rfl
theorem r_X11_plans_40 : co_X11_plans[40]? = some ((66, .aload_n 0, 0, 0, 0, 0, 0, 0, []) : xm_I) := rfl
theorem r_X11_plans_41 : co_X11_plans[41]? = some ((67, .iload_n 1, 0, 0, 0, 0, 0, 0, []) : xm_I) := rfl
theorem r_X11_plans_42 : co_X11_plans[42]? = some ((68, .iload_n 2, 0, 0, 0, 0, 0, 0, []) : xm_I) := rfl
theorem r_X11_plans_43 : co_X11_plans[43]? = some ((69, .invokevirtual 360, 1786, 254, 3, 10, 0, 0, []) : xm_I) := rfl
theorem r_X11_plans_44 : co_X11_plans[44]? = some ((72, .l2i, 0, 0, 0, 0, 0, 0, []) : xm_I) := rfl
theorem r_X11_plans_45 : co_X11_plans[45]? = some ((73, .invokevirtual 302, 1708, 234, 2, 10, 0, 0, []) : xm_I) := rfl
theorem r_X11_plans_46 : co_X11_plans[46]? = some ((76, .iadd, 0, 0, 0, 0, 0, 0, []) : xm_I) := rfl
theorem r_X11_plans_47 : co_X11_plans[47]? = some ((77, .putfield 367, 1398, 10, 18, 0, 0, 0, []) : xm_I) := rfl
theorem r_X11_plans_48 : co_X11_plans[48]? = some ((80, .aload_n 0, 0, 0, 0, 0, 0, 0, []) : xm_I) := rfl
theorem r_X11_plans_49 : co_X11_plans[49]? = some ((81, .dup, 0, 0, 0, 0, 0, 0, []) : xm_I) := rfl
theorem r_X11_plans_50 : co_X11_plans[50]? = some ((82, .getfield 370, 1399, 10, 19, 0, 0, 0, []) : xm_I) := rfl
theorem r_X11_plans_51 : co_X11_plans[51]? = some ((85, .iconst 1, 0, 0, 0, 0, 1, 0, []) : xm_I) := rfl
theorem r_X11_plans_52 : co_X11_plans[52]? = some ((86, .iadd, 0, 0, 0, 0, 0, 0, []) : xm_I) := rfl
theorem r_X11_plans_53 : co_X11_plans[53]? = some ((87, .putfield 370, 1399, 10, 19, 0, 0, 0, []) : xm_I) := rfl
theorem r_X11_plans_54 : co_X11_plans[54]? = some ((90, .iinc 2 1, 0, 0, 0, 0, 1, 0, []) : xm_I) := rfl
theorem r_X11_plans_55 : co_X11_plans[55]? = some ((93, .goto (-70), 0, 0, 13, 0, 0, 0, []) : xm_I) := rfl
theorem r_X11_plans_56 : co_X11_plans[56]? = some ((96, .return_, 0, 0, 0, 0, 0, 0, []) : xm_I) := rfl
theorem p_X11_plans_0_0 {X : xm_X} {P : List xm_M} {d : Nat} {h : xm_H} {l0 : Nat} {l1 : Int32} {h0 : xm_H} {r0 : Int32} {h1 : xm_H} {r1 : Int32} {ro : Option Value} {ho : xm_H} (q0 : xm_V X P d 218 [.ref l0] h (some (.int r0)) h0) (q1 : X.1[l0]? = some (.inr 10)) (q2 : xm_V X P d 232 [.ref l0] (xm_si h0 l0 17 r0) (some (.int r1)) h1) (K : xm_E X P d co_X11_plans 13 [some (.ref l0), some (.int l1), some (.int (0 : Int32)), none] [] (xm_si (xm_si h1 l0 18 r1) l0 19 (0 : Int32)) ro ho) : xm_E X P d co_X11_plans 0 [some (.ref l0), some (.int l1), none, none] [] h ro ho := by
  refine xm_E_s r_X11_plans_0 rfl rfl ?_
  refine xm_E_s r_X11_plans_1 rfl rfl ?_
  refine xm_E_cv [.ref l0] [.ref l0] r_X11_plans_2 rfl rfl (Nat.le_of_ble_eq_true rfl) (xm_rc q1 (by decide)) rfl q0 ?_
  refine xm_E_s r_X11_plans_3 rfl (xm_T_pi rfl q1 rfl rfl) ?_
  refine xm_E_s r_X11_plans_4 rfl rfl ?_
  refine xm_E_s r_X11_plans_5 rfl rfl ?_
  refine xm_E_cv [.ref l0] [.ref l0] r_X11_plans_6 rfl rfl (Nat.le_of_ble_eq_true rfl) (xm_rc q1 (by decide)) rfl q2 ?_
  refine xm_E_s r_X11_plans_7 rfl (xm_T_pi rfl q1 rfl rfl) ?_
  refine xm_E_s r_X11_plans_8 rfl rfl ?_
  refine xm_E_s r_X11_plans_9 rfl rfl ?_
  refine xm_E_s r_X11_plans_10 rfl (xm_T_pi rfl q1 rfl rfl) ?_
  refine xm_E_s r_X11_plans_11 rfl rfl ?_
  refine xm_E_s (ls1 := [some (.ref l0), some (.int l1), some (.int (0 : Int32)), none]) r_X11_plans_12 rfl rfl ?_
  exact K
theorem p_X11_plans_13_0 {X : xm_X} {P : List xm_M} {d : Nat} {h : xm_H} {l0 : Nat} {l1 : Int32} {l2 : Int32} {l3 : Option Value} {v0 : Nat} {n1 : Nat} (q0 : X.1[l0]? = some (.inr 10)) (q1 : h.2.2 l0 35 = some v0) (q2 : X.1[v0]? = some (.inl (0, n1))) (q3 : ¬ (l1 < 0 ∨ n1 ≤ l1.toNatClampNeg)) (q4 : h.1 v0 l1.toNatClampNeg ≤ l2) : xm_E X P d co_X11_plans 13 [some (.ref l0), some (.int l1), some (.int l2), l3] [] h none h := by
  refine xm_E_s r_X11_plans_13 rfl rfl ?_
  refine xm_E_s r_X11_plans_14 rfl rfl ?_
  refine xm_E_s r_X11_plans_15 rfl (xm_T_gr rfl q0 rfl rfl q1) ?_
  refine xm_E_s r_X11_plans_16 rfl rfl ?_
  refine xm_E_s r_X11_plans_17 rfl (xm_T_iald rfl q2 (by decide) q3) ?_
  refine xm_E_s r_X11_plans_18 rfl rfl ?_
  refine xm_E_t q4 ?_
  exact xm_E_ret r_X11_plans_56 rfl
theorem p_X11_plans_13_1 {X : xm_X} {P : List xm_M} {d : Nat} {h : xm_H} {l0 : Nat} {l1 : Int32} {l2 : Int32} {l3 : Option Value} {v0 : Nat} {n1 : Nat} {h2 : xm_H} {r2 : Int64} {h3 : xm_H} {r3 : Int32} (q0 : X.1[l0]? = some (.inr 10)) (q1 : h.2.2 l0 35 = some v0) (q2 : X.1[v0]? = some (.inl (0, n1))) (q3 : ¬ (l1 < 0 ∨ n1 ≤ l1.toNatClampNeg)) (q4 : ¬ (h.1 v0 l1.toNatClampNeg ≤ l2)) (q5 : xm_V X P d 254 [.ref l0, .int l1, .int l2] h (some (.long r2)) h2) (q6 : xm_V X P d 223 [.ref l0, .int (h.1 l0 17), .int r2.toInt32] h2 (some (.int r3)) h3) (q7 : r3 = (-1 : Int32)) : xm_E X P d co_X11_plans 13 [some (.ref l0), some (.int l1), some (.int l2), l3] [] h none h3 := by
  refine xm_E_s r_X11_plans_13 rfl rfl ?_
  refine xm_E_s r_X11_plans_14 rfl rfl ?_
  refine xm_E_s r_X11_plans_15 rfl (xm_T_gr rfl q0 rfl rfl q1) ?_
  refine xm_E_s r_X11_plans_16 rfl rfl ?_
  refine xm_E_s r_X11_plans_17 rfl (xm_T_iald rfl q2 (by decide) q3) ?_
  refine xm_E_s r_X11_plans_18 rfl rfl ?_
  refine xm_E_f q4 ?_
  refine xm_E_s r_X11_plans_19 rfl rfl ?_
  refine xm_E_s r_X11_plans_20 rfl rfl ?_
  refine xm_E_s r_X11_plans_21 rfl (xm_T_gi rfl q0 rfl (Or.inl rfl)) ?_
  refine xm_E_s r_X11_plans_22 rfl rfl ?_
  refine xm_E_s r_X11_plans_23 rfl rfl ?_
  refine xm_E_s r_X11_plans_24 rfl rfl ?_
  refine xm_E_cv [.ref l0, .int l1, .int l2] [.int (h.1 l0 17), .ref l0] r_X11_plans_25 rfl rfl (Nat.le_of_ble_eq_true rfl) (xm_rc q0 (by decide)) rfl q5 ?_
  refine xm_E_s r_X11_plans_26 rfl rfl ?_
  refine xm_E_cv [.ref l0, .int (h.1 l0 17), .int r2.toInt32] [] r_X11_plans_27 rfl rfl (Nat.le_of_ble_eq_true rfl) (xm_rc q0 (by decide)) rfl q6 ?_
  refine xm_E_s (ls1 := [some (.ref l0), some (.int l1), some (.int l2), some (.int r3)]) r_X11_plans_28 rfl rfl ?_
  refine xm_E_s r_X11_plans_29 rfl rfl ?_
  refine xm_E_s r_X11_plans_30 rfl rfl ?_
  refine xm_E_s r_X11_plans_31 rfl rfl ?_
  refine xm_E_t q7 ?_
  exact xm_E_ret r_X11_plans_32 rfl
theorem p_X11_plans_13_2 {X : xm_X} {P : List xm_M} {d : Nat} {h : xm_H} {l0 : Nat} {l1 : Int32} {l2 : Int32} {l3 : Option Value} {v0 : Nat} {n1 : Nat} {h2 : xm_H} {r2 : Int64} {h3 : xm_H} {r3 : Int32} {h4 : xm_H} {r4 : Int64} {h5 : xm_H} {r5 : Int32} {ro : Option Value} {ho : xm_H} (q0 : X.1[l0]? = some (.inr 10)) (q1 : h.2.2 l0 35 = some v0) (q2 : X.1[v0]? = some (.inl (0, n1))) (q3 : ¬ (l1 < 0 ∨ n1 ≤ l1.toNatClampNeg)) (q4 : ¬ (h.1 v0 l1.toNatClampNeg ≤ l2)) (q5 : xm_V X P d 254 [.ref l0, .int l1, .int l2] h (some (.long r2)) h2) (q6 : xm_V X P d 223 [.ref l0, .int (h.1 l0 17), .int r2.toInt32] h2 (some (.int r3)) h3) (q7 : ¬ (r3 = (-1 : Int32))) (q8 : xm_V X P d 254 [.ref l0, .int l1, .int l2] (xm_si h3 l0 17 r3) (some (.long r4)) h4) (q9 : xm_V X P d 234 [.ref l0, .int r4.toInt32] h4 (some (.int r5)) h5) (K : xm_E X P d co_X11_plans 13 [some (.ref l0), some (.int l1), some (.int (l2 + (1 : Int32))), some (.int r3)] [] (xm_si (xm_si h5 l0 18 (((xm_si h3 l0 17 r3).1 l0 18) + r5)) l0 19 (((xm_si h5 l0 18 (((xm_si h3 l0 17 r3).1 l0 18) + r5)).1 l0 19) + (1 : Int32))) ro ho) : xm_E X P d co_X11_plans 13 [some (.ref l0), some (.int l1), some (.int l2), l3] [] h ro ho := by
  refine xm_E_s r_X11_plans_13 rfl rfl ?_
  refine xm_E_s r_X11_plans_14 rfl rfl ?_
  refine xm_E_s r_X11_plans_15 rfl (xm_T_gr rfl q0 rfl rfl q1) ?_
  refine xm_E_s r_X11_plans_16 rfl rfl ?_
  refine xm_E_s r_X11_plans_17 rfl (xm_T_iald rfl q2 (by decide) q3) ?_
  refine xm_E_s r_X11_plans_18 rfl rfl ?_
  refine xm_E_f q4 ?_
  refine xm_E_s r_X11_plans_19 rfl rfl ?_
  refine xm_E_s r_X11_plans_20 rfl rfl ?_
  refine xm_E_s r_X11_plans_21 rfl (xm_T_gi rfl q0 rfl (Or.inl rfl)) ?_
  refine xm_E_s r_X11_plans_22 rfl rfl ?_
  refine xm_E_s r_X11_plans_23 rfl rfl ?_
  refine xm_E_s r_X11_plans_24 rfl rfl ?_
  refine xm_E_cv [.ref l0, .int l1, .int l2] [.int (h.1 l0 17), .ref l0] r_X11_plans_25 rfl rfl (Nat.le_of_ble_eq_true rfl) (xm_rc q0 (by decide)) rfl q5 ?_
  refine xm_E_s r_X11_plans_26 rfl rfl ?_
  refine xm_E_cv [.ref l0, .int (h.1 l0 17), .int r2.toInt32] [] r_X11_plans_27 rfl rfl (Nat.le_of_ble_eq_true rfl) (xm_rc q0 (by decide)) rfl q6 ?_
  refine xm_E_s (ls1 := [some (.ref l0), some (.int l1), some (.int l2), some (.int r3)]) r_X11_plans_28 rfl rfl ?_
  refine xm_E_s r_X11_plans_29 rfl rfl ?_
  refine xm_E_s r_X11_plans_30 rfl rfl ?_
  refine xm_E_s r_X11_plans_31 rfl rfl ?_
  refine xm_E_f q7 ?_
  refine xm_E_s r_X11_plans_33 rfl rfl ?_
  refine xm_E_s r_X11_plans_34 rfl rfl ?_
  refine xm_E_s r_X11_plans_35 rfl (xm_T_pi rfl q0 rfl rfl) ?_
  refine xm_E_s r_X11_plans_36 rfl rfl ?_
  refine xm_E_s r_X11_plans_37 rfl rfl ?_
  refine xm_E_s r_X11_plans_38 rfl (xm_T_gi rfl q0 rfl (Or.inl rfl)) ?_
  refine xm_E_s r_X11_plans_39 rfl rfl ?_
  refine xm_E_s r_X11_plans_40 rfl rfl ?_
  refine xm_E_s r_X11_plans_41 rfl rfl ?_
  refine xm_E_s r_X11_plans_42 rfl rfl ?_
  refine xm_E_cv [.ref l0, .int l1, .int l2] [.ref l0, .int ((xm_si h3 l0 17 r3).1 l0 18), .ref l0] r_X11_plans_43 rfl rfl (Nat.le_of_ble_eq_true rfl) (xm_rc q0 (by decide)) rfl q8 ?_
  refine xm_E_s r_X11_plans_44 rfl rfl ?_
  refine xm_E_cv [.ref l0, .int r4.toInt32] [.int ((xm_si h3 l0 17 r3).1 l0 18), .ref l0] r_X11_plans_45 rfl rfl (Nat.le_of_ble_eq_true rfl) (xm_rc q0 (by decide)) rfl q9 ?_
  refine xm_E_s r_X11_plans_46 rfl rfl ?_
  refine xm_E_s r_X11_plans_47 rfl (xm_T_pi rfl q0 rfl rfl) ?_
  refine xm_E_s r_X11_plans_48 rfl rfl ?_
  refine xm_E_s r_X11_plans_49 rfl rfl ?_
  refine xm_E_s r_X11_plans_50 rfl (xm_T_gi rfl q0 rfl (Or.inl rfl)) ?_
  refine xm_E_s r_X11_plans_51 rfl rfl ?_
  refine xm_E_s r_X11_plans_52 rfl rfl ?_
  refine xm_E_s r_X11_plans_53 rfl (xm_T_pi rfl q0 rfl rfl) ?_
  refine xm_E_s (ls1 := [some (.ref l0), some (.int l1), some (.int (l2 + (1 : Int32))), some (.int r3)]) r_X11_plans_54 rfl rfl ?_
  refine xm_E_s r_X11_plans_55 rfl rfl ?_
  exact K
theorem r_X11_after_0 : co_X11_after[0]? = some ((0, .aload_n 0, 0, 0, 0, 0, 0, 0, []) : xm_I) := rfl
theorem r_X11_after_1 : co_X11_after[1]? = some ((1, .iload_n 1, 0, 0, 0, 0, 0, 0, []) : xm_I) := rfl
theorem r_X11_after_2 : co_X11_after[2]? = some ((2, .iload_n 2, 0, 0, 0, 0, 0, 0, []) : xm_I) := rfl
theorem r_X11_after_3 : co_X11_after[3]? = some ((3, .invokestatic 327, 1647, 217, 1, 0, 0, 0, []) : xm_I) := rfl
theorem r_X11_after_4 : co_X11_after[4]? = some ((6, .iconst 0, 0, 0, 0, 0, 0, 0, []) : xm_I) := rfl
theorem r_X11_after_5 : co_X11_after[5]? = some ((7, .invokevirtual 373, 1778, 252, 4, 10, 0, 0, []) : xm_I) := rfl
theorem r_X11_after_6 : co_X11_after[6]? = some ((10, .istore_n 3, 0, 0, 0, 0, 0, 0, []) : xm_I) := rfl
theorem r_X11_after_7 : co_X11_after[7]? = some ((11, .iload_n 3, 0, 0, 0, 0, 0, 0, []) : xm_I) := rfl
theorem r_X11_after_8 : co_X11_after[8]? = some ((12, .ifCond .ge 18, 0, 0, 16, 0, 0, 0, []) : xm_I) := rfl
theorem r_X11_after_9 : co_X11_after[9]? = some ((15, .iload_n 3, 0, 0, 0, 0, 0, 0, []) : xm_I) := rfl
theorem r_X11_after_10 : co_X11_after[10]? = some ((16, .bipush (-6), 0, 0, 0, 0, (-6), 0, []) : xm_I) := rfl
theorem r_X11_after_11 : co_X11_after[11]? = some ((18, .if_icmp .ne 9, 0, 0, 14, 0, 0, 0, []) : xm_I) := rfl
theorem r_X11_after_12 : co_X11_after[12]? = some ((21, .sipush (-600), 0, 0, 0, 0, (-600), 0, []) : xm_I) := rfl
theorem r_X11_after_13 : co_X11_after[13]? = some ((24, .goto 5, 0, 0, 15, 0, 0, 0, []) : xm_I) := rfl
theorem r_X11_after_14 : co_X11_after[14]? = some ((27, .bipush (-100), 0, 0, 0, 0, (-100), 0, []) : xm_I) := rfl
theorem r_X11_after_15 : co_X11_after[15]? = some ((29, .ireturn, 0, 0, 0, 0, 0, 0, []) : xm_I) := rfl
theorem r_X11_after_16 : co_X11_after[16]? = some ((30, .aload_n 0, 0, 0, 0, 0, 0, 0, []) : xm_I) := rfl
theorem r_X11_after_17 : co_X11_after[17]? = some ((31, .iload_n 1, 0, 0, 0, 0, 0, 0, []) : xm_I) := rfl
theorem r_X11_after_18 : co_X11_after[18]? = some ((32, .invokevirtual 377, 1790, 255, 2, 10, 0, 0, []) : xm_I) := rfl
theorem r_X11_after_19 : co_X11_after[19]? = some ((35, .aload_n 0, 0, 0, 0, 0, 0, 0, []) : xm_I) := rfl
theorem r_X11_after_20 : co_X11_after[20]? = some ((36, .aload_n 0, 0, 0, 0, 0, 0, 0, []) : xm_I) := rfl
theorem r_X11_after_21 : co_X11_after[21]? = some ((37, .getfield 364, 1397, 10, 17, 0, 0, 0, []) : xm_I) := rfl
theorem r_X11_after_22 : co_X11_after[22]? = some ((40, .iload_n 2, 0, 0, 0, 0, 0, 0, []) : xm_I) := rfl
theorem r_X11_after_23 : co_X11_after[23]? = some ((41, .aload_n 0, 0, 0, 0, 0, 0, 0, []) : xm_I) := rfl
theorem r_X11_after_24 : co_X11_after[24]? = some ((42, .getfield 367, 1398, 10, 18, 0, 0, 0, []) : xm_I) := rfl
theorem r_X11_after_25 : co_X11_after[25]? = some ((45, .invokevirtual 337, 1715, 236, 4, 10, 0, 0, []) : xm_I) := rfl
theorem r_X11_after_26 : co_X11_after[26]? = some ((48, .ireturn, 0, 0, 0, 0, 0, 0, []) : xm_I) := rfl
theorem p_X11_after_0_0 {X : xm_X} {P : List xm_M} {d : Nat} {h : xm_H} {l0 : Nat} {l1 : Int32} {l2 : Int32} {h0 : xm_H} {r0 : Int32} {h1 : xm_H} {r1 : Int32} {h2 : xm_H} {h3 : xm_H} {r3 : Int32} (q0 : xm_V X P d 217 [.int l2] h (some (.int r0)) h0) (q1 : xm_V X P d 252 [.ref l0, .int l1, .int r0, .int (0 : Int32)] h0 (some (.int r1)) h1) (q2 : X.1[l0]? = some (.inr 10)) (q3 : (0 : Int32) ≤ r1) (q4 : xm_V X P d 255 [.ref l0, .int l1] h1 none h2) (q5 : xm_V X P d 236 [.ref l0, .int (h2.1 l0 17), .int l2, .int (h2.1 l0 18)] h2 (some (.int r3)) h3) : xm_E X P d co_X11_after 0 [some (.ref l0), some (.int l1), some (.int l2), none] [] h (some (.int r3)) h3 := by
  refine xm_E_s r_X11_after_0 rfl rfl ?_
  refine xm_E_s r_X11_after_1 rfl rfl ?_
  refine xm_E_s r_X11_after_2 rfl rfl ?_
  refine xm_E_cs [.int l2] [.int l1, .ref l0] r_X11_after_3 rfl rfl rfl (Nat.le_of_ble_eq_true rfl) rfl q0 ?_
  refine xm_E_s r_X11_after_4 rfl rfl ?_
  refine xm_E_cv [.ref l0, .int l1, .int r0, .int (0 : Int32)] [] r_X11_after_5 rfl rfl (Nat.le_of_ble_eq_true rfl) (xm_rc q2 (by decide)) rfl q1 ?_
  refine xm_E_s (ls1 := [some (.ref l0), some (.int l1), some (.int l2), some (.int r1)]) r_X11_after_6 rfl rfl ?_
  refine xm_E_s r_X11_after_7 rfl rfl ?_
  refine xm_E_s r_X11_after_8 rfl rfl ?_
  refine xm_E_t q3 ?_
  refine xm_E_s r_X11_after_16 rfl rfl ?_
  refine xm_E_s r_X11_after_17 rfl rfl ?_
  refine xm_E_cv [.ref l0, .int l1] [] r_X11_after_18 rfl rfl (Nat.le_of_ble_eq_true rfl) (xm_rc q2 (by decide)) rfl q4 ?_
  refine xm_E_s r_X11_after_19 rfl rfl ?_
  refine xm_E_s r_X11_after_20 rfl rfl ?_
  refine xm_E_s r_X11_after_21 rfl (xm_T_gi rfl q2 rfl (Or.inl rfl)) ?_
  refine xm_E_s r_X11_after_22 rfl rfl ?_
  refine xm_E_s r_X11_after_23 rfl rfl ?_
  refine xm_E_s r_X11_after_24 rfl (xm_T_gi rfl q2 rfl (Or.inl rfl)) ?_
  refine xm_E_cv [.ref l0, .int (h2.1 l0 17), .int l2, .int (h2.1 l0 18)] [] r_X11_after_25 rfl rfl (Nat.le_of_ble_eq_true rfl) (xm_rc q2 (by decide)) rfl q5 ?_
  exact xm_E_iret r_X11_after_26 rfl rfl
theorem p_X11_after_0_1 {X : xm_X} {P : List xm_M} {d : Nat} {h : xm_H} {l0 : Nat} {l1 : Int32} {l2 : Int32} {h0 : xm_H} {r0 : Int32} {h1 : xm_H} {r1 : Int32} (q0 : xm_V X P d 217 [.int l2] h (some (.int r0)) h0) (q1 : xm_V X P d 252 [.ref l0, .int l1, .int r0, .int (0 : Int32)] h0 (some (.int r1)) h1) (q2 : X.1[l0]? = some (.inr 10)) (q3 : ¬ ((0 : Int32) ≤ r1)) (q4 : r1 = (-6 : Int32)) : xm_E X P d co_X11_after 0 [some (.ref l0), some (.int l1), some (.int l2), none] [] h (some (.int (-600 : Int32))) h1 := by
  refine xm_E_s r_X11_after_0 rfl rfl ?_
  refine xm_E_s r_X11_after_1 rfl rfl ?_
  refine xm_E_s r_X11_after_2 rfl rfl ?_
  refine xm_E_cs [.int l2] [.int l1, .ref l0] r_X11_after_3 rfl rfl rfl (Nat.le_of_ble_eq_true rfl) rfl q0 ?_
  refine xm_E_s r_X11_after_4 rfl rfl ?_
  refine xm_E_cv [.ref l0, .int l1, .int r0, .int (0 : Int32)] [] r_X11_after_5 rfl rfl (Nat.le_of_ble_eq_true rfl) (xm_rc q2 (by decide)) rfl q1 ?_
  refine xm_E_s (ls1 := [some (.ref l0), some (.int l1), some (.int l2), some (.int r1)]) r_X11_after_6 rfl rfl ?_
  refine xm_E_s r_X11_after_7 rfl rfl ?_
  refine xm_E_s r_X11_after_8 rfl rfl ?_
  refine xm_E_f q3 ?_
  refine xm_E_s r_X11_after_9 rfl rfl ?_
  refine xm_E_s r_X11_after_10 rfl rfl ?_
  refine xm_E_s r_X11_after_11 rfl rfl ?_
  refine xm_E_t q4 ?_
  refine xm_E_s r_X11_after_12 rfl rfl ?_
  refine xm_E_s r_X11_after_13 rfl rfl ?_
  exact xm_E_iret r_X11_after_15 rfl rfl
theorem p_X11_after_0_2 {X : xm_X} {P : List xm_M} {d : Nat} {h : xm_H} {l0 : Nat} {l1 : Int32} {l2 : Int32} {h0 : xm_H} {r0 : Int32} {h1 : xm_H} {r1 : Int32} (q0 : xm_V X P d 217 [.int l2] h (some (.int r0)) h0) (q1 : xm_V X P d 252 [.ref l0, .int l1, .int r0, .int (0 : Int32)] h0 (some (.int r1)) h1) (q2 : X.1[l0]? = some (.inr 10)) (q3 : ¬ ((0 : Int32) ≤ r1)) (q4 : ¬ (r1 = (-6 : Int32))) : xm_E X P d co_X11_after 0 [some (.ref l0), some (.int l1), some (.int l2), none] [] h (some (.int (-100 : Int32))) h1 := by
  refine xm_E_s r_X11_after_0 rfl rfl ?_
  refine xm_E_s r_X11_after_1 rfl rfl ?_
  refine xm_E_s r_X11_after_2 rfl rfl ?_
  refine xm_E_cs [.int l2] [.int l1, .ref l0] r_X11_after_3 rfl rfl rfl (Nat.le_of_ble_eq_true rfl) rfl q0 ?_
  refine xm_E_s r_X11_after_4 rfl rfl ?_
  refine xm_E_cv [.ref l0, .int l1, .int r0, .int (0 : Int32)] [] r_X11_after_5 rfl rfl (Nat.le_of_ble_eq_true rfl) (xm_rc q2 (by decide)) rfl q1 ?_
  refine xm_E_s (ls1 := [some (.ref l0), some (.int l1), some (.int l2), some (.int r1)]) r_X11_after_6 rfl rfl ?_
  refine xm_E_s r_X11_after_7 rfl rfl ?_
  refine xm_E_s r_X11_after_8 rfl rfl ?_
  refine xm_E_f q3 ?_
  refine xm_E_s r_X11_after_9 rfl rfl ?_
  refine xm_E_s r_X11_after_10 rfl rfl ?_
  refine xm_E_s r_X11_after_11 rfl rfl ?_
  refine xm_E_f q4 ?_
  refine xm_E_s r_X11_after_14 rfl rfl ?_
  exact xm_E_iret r_X11_after_15 rfl rfl
theorem r_X11_fewest_0 : co_X11_fewest[0]? = some ((0, .aload_n 0, 0, 0, 0, 0, 0, 0, []) : xm_I) := rfl
theorem r_X11_fewest_1 : co_X11_fewest[1]? = some ((1, .invokevirtual 420, 1802, 258, 1, 10, 0, 0, []) : xm_I) := rfl
theorem r_X11_fewest_2 : co_X11_fewest[2]? = some ((4, .ifCond .eq 19, 0, 0, 13, 0, 0, 0, []) : xm_I) := rfl
theorem r_X11_fewest_3 : co_X11_fewest[3]? = some ((7, .aload_n 0, 0, 0, 0, 0, 0, 0, []) : xm_I) := rfl
theorem r_X11_fewest_4 : co_X11_fewest[4]? = some ((8, .aload_n 0, 0, 0, 0, 0, 0, 0, []) : xm_I) := rfl
theorem r_X11_fewest_5 : co_X11_fewest[5]? = some ((9, .getfield 9, 1381, 10, 1, 2, 0, 0, []) : xm_I) := rfl
theorem r_X11_fewest_6 : co_X11_fewest[6]? = some ((12, .iconst 3, 0, 0, 0, 0, 3, 0, []) : xm_I) := rfl
theorem r_X11_fewest_7 : co_X11_fewest[7]? = some ((13, .iaload, 0, 0, 0, 0, 0, 0, []) : xm_I) := rfl
theorem r_X11_fewest_8 : co_X11_fewest[8]? = some ((14, .iconst 0, 0, 0, 0, 0, 0, 0, []) : xm_I) := rfl
theorem r_X11_fewest_9 : co_X11_fewest[9]? = some ((15, .iconst (-1), 0, 0, 0, 0, (-1), 0, []) : xm_I) := rfl
theorem r_X11_fewest_10 : co_X11_fewest[10]? = some ((16, .iconst 0, 0, 0, 0, 0, 0, 0, []) : xm_I) := rfl
theorem r_X11_fewest_11 : co_X11_fewest[11]? = some ((17, .invokevirtual 423, 1810, 260, 5, 10, 0, 0, []) : xm_I) := rfl
theorem r_X11_fewest_12 : co_X11_fewest[12]? = some ((20, .goto 5, 0, 0, 14, 0, 0, 0, []) : xm_I) := rfl
theorem r_X11_fewest_13 : co_X11_fewest[13]? = some ((23, .bipush (-2), 0, 0, 0, 0, (-2), 0, []) : xm_I) := rfl
theorem r_X11_fewest_14 : co_X11_fewest[14]? = some ((25, .ireturn, 0, 0, 0, 0, 0, 0, []) : xm_I) := rfl
theorem p_X11_fewest_0_0 {X : xm_X} {P : List xm_M} {d : Nat} {h : xm_H} {l0 : Nat} {h0 : xm_H} {r0 : Int32} (q0 : xm_V X P d 258 [.ref l0] h (some (.int r0)) h0) (q1 : X.1[l0]? = some (.inr 10)) (q2 : r0 = (0 : Int32)) : xm_E X P d co_X11_fewest 0 [some (.ref l0)] [] h (some (.int (-2 : Int32))) h0 := by
  refine xm_E_s r_X11_fewest_0 rfl rfl ?_
  refine xm_E_cv [.ref l0] [] r_X11_fewest_1 rfl rfl (Nat.le_of_ble_eq_true rfl) (xm_rc q1 (by decide)) rfl q0 ?_
  refine xm_E_s r_X11_fewest_2 rfl rfl ?_
  refine xm_E_t q2 ?_
  refine xm_E_s r_X11_fewest_13 rfl rfl ?_
  exact xm_E_iret r_X11_fewest_14 rfl rfl
theorem p_X11_fewest_0_1 {X : xm_X} {P : List xm_M} {d : Nat} {h : xm_H} {l0 : Nat} {h0 : xm_H} {r0 : Int32} {v1 : Nat} {n2 : Nat} {h3 : xm_H} {r3 : Int32} (q0 : xm_V X P d 258 [.ref l0] h (some (.int r0)) h0) (q1 : X.1[l0]? = some (.inr 10)) (q2 : ¬ (r0 = (0 : Int32))) (q3 : h0.2.2 l0 1 = some v1) (q4 : X.1[v1]? = some (.inl (0, n2))) (q5 : 3 < n2) (q6 : xm_V X P d 260 [.ref l0, .int (h0.1 v1 3), .int (0 : Int32), .int (-1 : Int32), .int (0 : Int32)] h0 (some (.int r3)) h3) : xm_E X P d co_X11_fewest 0 [some (.ref l0)] [] h (some (.int r3)) h3 := by
  refine xm_E_s r_X11_fewest_0 rfl rfl ?_
  refine xm_E_cv [.ref l0] [] r_X11_fewest_1 rfl rfl (Nat.le_of_ble_eq_true rfl) (xm_rc q1 (by decide)) rfl q0 ?_
  refine xm_E_s r_X11_fewest_2 rfl rfl ?_
  refine xm_E_f q2 ?_
  refine xm_E_s r_X11_fewest_3 rfl rfl ?_
  refine xm_E_s r_X11_fewest_4 rfl rfl ?_
  refine xm_E_s r_X11_fewest_5 rfl (xm_T_gr rfl q1 rfl rfl q3) ?_
  refine xm_E_s r_X11_fewest_6 rfl rfl ?_
  refine xm_E_s r_X11_fewest_7 rfl (xm_T_iald rfl q4 (by decide) (fun e => e.elim (fun e => absurd e (by decide)) (fun e => Nat.not_le.mpr q5 e))) ?_
  refine xm_E_s r_X11_fewest_8 rfl rfl ?_
  refine xm_E_s r_X11_fewest_9 rfl rfl ?_
  refine xm_E_s r_X11_fewest_10 rfl rfl ?_
  refine xm_E_cv [.ref l0, .int (h0.1 v1 3), .int (0 : Int32), .int (-1 : Int32), .int (0 : Int32)] [] r_X11_fewest_11 rfl rfl (Nat.le_of_ble_eq_true rfl) (xm_rc q1 (by decide)) rfl q6 ?_
  refine xm_E_s r_X11_fewest_12 rfl rfl ?_
  exact xm_E_iret r_X11_fewest_14 rfl rfl
theorem r_X11_canWish_0 : co_X11_canWish[0]? = some ((0, .aload_n 0, 0, 0, 0, 0, 0, 0, []) : xm_I) := rfl
theorem r_X11_canWish_1 : co_X11_canWish[1]? = some ((1, .invokevirtual 324, 1643, 216, 1, 10, 0, 0, []) : xm_I) := rfl
theorem r_X11_canWish_2 : co_X11_canWish[2]? = some ((4, .ifCond .eq 14, 0, 0, 8, 0, 0, 0, []) : xm_I) := rfl
theorem r_X11_canWish_3 : co_X11_canWish[3]? = some ((7, .aload_n 0, 0, 0, 0, 0, 0, 0, []) : xm_I) := rfl
theorem r_X11_canWish_4 : co_X11_canWish[4]? = some ((8, .invokevirtual 417, 1806, 259, 1, 10, 0, 0, []) : xm_I) := rfl
theorem r_X11_canWish_5 : co_X11_canWish[5]? = some ((11, .ifCond .eq 7, 0, 0, 8, 0, 0, 0, []) : xm_I) := rfl
theorem r_X11_canWish_6 : co_X11_canWish[6]? = some ((14, .iconst 1, 0, 0, 0, 0, 1, 0, []) : xm_I) := rfl
theorem r_X11_canWish_7 : co_X11_canWish[7]? = some ((15, .goto 4, 0, 0, 9, 0, 0, 0, []) : xm_I) := rfl
theorem r_X11_canWish_8 : co_X11_canWish[8]? = some ((18, .iconst 0, 0, 0, 0, 0, 0, 0, []) : xm_I) := rfl
theorem r_X11_canWish_9 : co_X11_canWish[9]? = some ((19, .ireturn, 0, 0, 0, 3, 0, 0, []) : xm_I) := rfl
theorem p_X11_canWish_0_0 {X : xm_X} {P : List xm_M} {d : Nat} {h : xm_H} {l0 : Nat} {h0 : xm_H} {r0 : Int32} (q0 : xm_V X P d 216 [.ref l0] h (some (.int r0)) h0) (q1 : X.1[l0]? = some (.inr 10)) (q2 : r0 = (0 : Int32)) : xm_E X P d co_X11_canWish 0 [some (.ref l0)] [] h (some (.int (0 : Int32))) h0 := by
  refine xm_E_s r_X11_canWish_0 rfl rfl ?_
  refine xm_E_cv [.ref l0] [] r_X11_canWish_1 rfl rfl (Nat.le_of_ble_eq_true rfl) (xm_rc q1 (by decide)) rfl q0 ?_
  refine xm_E_s r_X11_canWish_2 rfl rfl ?_
  refine xm_E_t q2 ?_
  refine xm_E_s r_X11_canWish_8 rfl rfl ?_
  exact xm_E_iret r_X11_canWish_9 rfl rfl
theorem p_X11_canWish_0_1 {X : xm_X} {P : List xm_M} {d : Nat} {h : xm_H} {l0 : Nat} {h0 : xm_H} {r0 : Int32} {h1 : xm_H} {r1 : Int32} (q0 : xm_V X P d 216 [.ref l0] h (some (.int r0)) h0) (q1 : X.1[l0]? = some (.inr 10)) (q2 : ¬ (r0 = (0 : Int32))) (q3 : xm_V X P d 259 [.ref l0] h0 (some (.int r1)) h1) (q4 : r1 = (0 : Int32)) : xm_E X P d co_X11_canWish 0 [some (.ref l0)] [] h (some (.int (0 : Int32))) h1 := by
  refine xm_E_s r_X11_canWish_0 rfl rfl ?_
  refine xm_E_cv [.ref l0] [] r_X11_canWish_1 rfl rfl (Nat.le_of_ble_eq_true rfl) (xm_rc q1 (by decide)) rfl q0 ?_
  refine xm_E_s r_X11_canWish_2 rfl rfl ?_
  refine xm_E_f q2 ?_
  refine xm_E_s r_X11_canWish_3 rfl rfl ?_
  refine xm_E_cv [.ref l0] [] r_X11_canWish_4 rfl rfl (Nat.le_of_ble_eq_true rfl) (xm_rc q1 (by decide)) rfl q3 ?_
  refine xm_E_s r_X11_canWish_5 rfl rfl ?_
  refine xm_E_t q4 ?_
  refine xm_E_s r_X11_canWish_8 rfl rfl ?_
  exact xm_E_iret r_X11_canWish_9 rfl rfl
theorem p_X11_canWish_0_2 {X : xm_X} {P : List xm_M} {d : Nat} {h : xm_H} {l0 : Nat} {h0 : xm_H} {r0 : Int32} {h1 : xm_H} {r1 : Int32} (q0 : xm_V X P d 216 [.ref l0] h (some (.int r0)) h0) (q1 : X.1[l0]? = some (.inr 10)) (q2 : ¬ (r0 = (0 : Int32))) (q3 : xm_V X P d 259 [.ref l0] h0 (some (.int r1)) h1) (q4 : ¬ (r1 = (0 : Int32))) : xm_E X P d co_X11_canWish 0 [some (.ref l0)] [] h (some (.int (1 : Int32))) h1 := by
  refine xm_E_s r_X11_canWish_0 rfl rfl ?_
  refine xm_E_cv [.ref l0] [] r_X11_canWish_1 rfl rfl (Nat.le_of_ble_eq_true rfl) (xm_rc q1 (by decide)) rfl q0 ?_
  refine xm_E_s r_X11_canWish_2 rfl rfl ?_
  refine xm_E_f q2 ?_
  refine xm_E_s r_X11_canWish_3 rfl rfl ?_
  refine xm_E_cv [.ref l0] [] r_X11_canWish_4 rfl rfl (Nat.le_of_ble_eq_true rfl) (xm_rc q1 (by decide)) rfl q3 ?_
  refine xm_E_s r_X11_canWish_5 rfl rfl ?_
  refine xm_E_f q4 ?_
  refine xm_E_s r_X11_canWish_6 rfl rfl ?_
  refine xm_E_s r_X11_canWish_7 rfl rfl ?_
  exact xm_E_iret r_X11_canWish_9 rfl rfl
theorem r_X11_isWished_0 : co_X11_isWished[0]? = some ((0, .aload_n 0, 0, 0, 0, 0, 0, 0, []) : xm_I) := rfl
theorem r_X11_isWished_1 : co_X11_isWished[1]? = some ((1, .getfield 9, 1381, 10, 1, 2, 0, 0, []) : xm_I) := rfl
theorem r_X11_isWished_2 : co_X11_isWished[2]? = some ((4, .bipush 13, 0, 0, 0, 0, 13, 0, []) : xm_I) := rfl
theorem r_X11_isWished_3 : co_X11_isWished[3]? = some ((6, .iaload, 0, 0, 0, 0, 0, 0, []) : xm_I) := rfl
theorem r_X11_isWished_4 : co_X11_isWished[4]? = some ((7, .ifCond .le 7, 0, 0, 7, 0, 0, 0, []) : xm_I) := rfl
theorem r_X11_isWished_5 : co_X11_isWished[5]? = some ((10, .iconst 1, 0, 0, 0, 0, 1, 0, []) : xm_I) := rfl
theorem r_X11_isWished_6 : co_X11_isWished[6]? = some ((11, .goto 4, 0, 0, 8, 0, 0, 0, []) : xm_I) := rfl
theorem r_X11_isWished_7 : co_X11_isWished[7]? = some ((14, .iconst 0, 0, 0, 0, 0, 0, 0, []) : xm_I) := rfl
theorem r_X11_isWished_8 : co_X11_isWished[8]? = some ((15, .ireturn, 0, 0, 0, 3, 0, 0, []) : xm_I) := rfl
theorem p_X11_isWished_0_0 {X : xm_X} {P : List xm_M} {d : Nat} {h : xm_H} {l0 : Nat} {v0 : Nat} {n1 : Nat} (q0 : X.1[l0]? = some (.inr 10)) (q1 : h.2.2 l0 1 = some v0) (q2 : X.1[v0]? = some (.inl (0, n1))) (q3 : 13 < n1) (q4 : h.1 v0 13 ≤ (0 : Int32)) : xm_E X P d co_X11_isWished 0 [some (.ref l0)] [] h (some (.int (0 : Int32))) h := by
  refine xm_E_s r_X11_isWished_0 rfl rfl ?_
  refine xm_E_s r_X11_isWished_1 rfl (xm_T_gr rfl q0 rfl rfl q1) ?_
  refine xm_E_s r_X11_isWished_2 rfl rfl ?_
  refine xm_E_s r_X11_isWished_3 rfl (xm_T_iald rfl q2 (by decide) (fun e => e.elim (fun e => absurd e (by decide)) (fun e => Nat.not_le.mpr q3 e))) ?_
  refine xm_E_s r_X11_isWished_4 rfl rfl ?_
  refine xm_E_t q4 ?_
  refine xm_E_s r_X11_isWished_7 rfl rfl ?_
  exact xm_E_iret r_X11_isWished_8 rfl rfl
theorem p_X11_isWished_0_1 {X : xm_X} {P : List xm_M} {d : Nat} {h : xm_H} {l0 : Nat} {v0 : Nat} {n1 : Nat} (q0 : X.1[l0]? = some (.inr 10)) (q1 : h.2.2 l0 1 = some v0) (q2 : X.1[v0]? = some (.inl (0, n1))) (q3 : 13 < n1) (q4 : ¬ (h.1 v0 13 ≤ (0 : Int32))) : xm_E X P d co_X11_isWished 0 [some (.ref l0)] [] h (some (.int (1 : Int32))) h := by
  refine xm_E_s r_X11_isWished_0 rfl rfl ?_
  refine xm_E_s r_X11_isWished_1 rfl (xm_T_gr rfl q0 rfl rfl q1) ?_
  refine xm_E_s r_X11_isWished_2 rfl rfl ?_
  refine xm_E_s r_X11_isWished_3 rfl (xm_T_iald rfl q2 (by decide) (fun e => e.elim (fun e => absurd e (by decide)) (fun e => Nat.not_le.mpr q3 e))) ?_
  refine xm_E_s r_X11_isWished_4 rfl rfl ?_
  refine xm_E_f q4 ?_
  refine xm_E_s r_X11_isWished_5 rfl rfl ?_
  refine xm_E_s r_X11_isWished_6 rfl rfl ?_
  exact xm_E_iret r_X11_isWished_8 rfl rfl
theorem r_X11_searches_0 : co_X11_searches[0]? = some ((0, .aload_n 0, 0, 0, 0, 0, 0, 0, []) : xm_I) := rfl
theorem r_X11_searches_1 : co_X11_searches[1]? = some ((1, .invokevirtual 331, 1651, 218, 1, 10, 0, 0, []) : xm_I) := rfl
theorem r_X11_searches_2 : co_X11_searches[2]? = some ((4, .istore 5, 0, 0, 0, 0, 0, 0, []) : xm_I) := rfl
theorem r_X11_searches_3 : co_X11_searches[3]? = some ((6, .aload_n 0, 0, 0, 0, 0, 0, 0, []) : xm_I) := rfl
theorem r_X11_searches_4 : co_X11_searches[4]? = some ((7, .iload_n 1, 0, 0, 0, 0, 0, 0, []) : xm_I) := rfl
theorem r_X11_searches_5 : co_X11_searches[5]? = some ((8, .putfield 271, 1395, 10, 15, 0, 0, 0, []) : xm_I) := rfl
theorem r_X11_searches_6 : co_X11_searches[6]? = some ((11, .aload_n 0, 0, 0, 0, 0, 0, 0, []) : xm_I) := rfl
theorem r_X11_searches_7 : co_X11_searches[7]? = some ((12, .iload_n 2, 0, 0, 0, 0, 0, 0, []) : xm_I) := rfl
theorem r_X11_searches_8 : co_X11_searches[8]? = some ((13, .putfield 261, 1396, 10, 16, 3, 0, 0, []) : xm_I) := rfl
theorem r_X11_searches_9 : co_X11_searches[9]? = some ((16, .aload_n 0, 0, 0, 0, 0, 0, 0, []) : xm_I) := rfl
theorem r_X11_searches_10 : co_X11_searches[10]? = some ((17, .iload_n 3, 0, 0, 0, 0, 0, 0, []) : xm_I) := rfl
theorem r_X11_searches_11 : co_X11_searches[11]? = some ((18, .putfield 380, 1404, 10, 24, 0, 0, 0, []) : xm_I) := rfl
theorem r_X11_searches_12 : co_X11_searches[12]? = some ((21, .aload_n 0, 0, 0, 0, 0, 0, 0, []) : xm_I) := rfl
theorem r_X11_searches_13 : co_X11_searches[13]? = some ((22, .iload 4, 0, 0, 0, 0, 0, 0, []) : xm_I) := rfl
theorem r_X11_searches_14 : co_X11_searches[14]? = some ((24, .putfield 383, 1405, 10, 25, 3, 0, 0, []) : xm_I) := rfl
theorem r_X11_searches_15 : co_X11_searches[15]? = some ((27, .aload_n 0, 0, 0, 0, 0, 0, 0, []) : xm_I) := rfl
theorem r_X11_searches_16 : co_X11_searches[16]? = some ((28, .iload 5, 0, 0, 0, 0, 0, 0, []) : xm_I) := rfl
theorem r_X11_searches_17 : co_X11_searches[17]? = some ((30, .invokevirtual 405, 1814, 261, 2, 10, 0, 0, []) : xm_I) := rfl
theorem r_X11_searches_18 : co_X11_searches[18]? = some ((33, .aload_n 0, 0, 0, 0, 0, 0, 0, []) : xm_I) := rfl
theorem r_X11_searches_19 : co_X11_searches[19]? = some ((34, .invokevirtual 408, 1835, 266, 1, 10, 0, 0, []) : xm_I) := rfl
theorem r_X11_searches_20 : co_X11_searches[20]? = some ((37, .istore 6, 0, 0, 0, 0, 0, 0, []) : xm_I) := rfl
theorem r_X11_searches_21 : co_X11_searches[21]? = some ((39, .iload 6, 0, 0, 0, 0, 0, 0, []) : xm_I) := rfl
theorem r_X11_searches_22 : co_X11_searches[22]? = some ((41, .ldc_w 386, 1818, 0, 0, 0, 1000000000, 0, []) : xm_I) := rfl
theorem r_X11_searches_23 : co_X11_searches[23]? = some ((44, .if_icmp .ne 7, 0, 0, 26, 0, 0, 0, []) : xm_I) := rfl
theorem r_X11_searches_24 : co_X11_searches[24]? = some ((47, .iconst (-1), 0, 0, 0, 0, (-1), 0, []) : xm_I) := rfl
theorem r_X11_searches_25 : co_X11_searches[25]? = some ((48, .goto 5, 0, 0, 27, 0, 0, 0, []) : xm_I) := rfl
theorem r_X11_searches_26 : co_X11_searches[26]? = some ((51, .iload 6, 0, 0, 0, 0, 0, 0, []) : xm_I) := rfl
theorem r_X11_searches_27 : co_X11_searches[27]? = some ((53, .ireturn, 0, 0, 0, 0, 0, 0, []) : xm_I) := rfl
theorem p_X11_searches_0_0 {X : xm_X} {P : List xm_M} {d : Nat} {h : xm_H} {l0 : Nat} {l1 : Int32} {l2 : Int32} {l3 : Int32} {l4 : Int32} {h0 : xm_H} {r0 : Int32} {h1 : xm_H} {h2 : xm_H} {r2 : Int32} (q0 : xm_V X P d 218 [.ref l0] h (some (.int r0)) h0) (q1 : X.1[l0]? = some (.inr 10)) (q2 : l2 = 0 ∨ l2 = 1) (q3 : l4 = 0 ∨ l4 = 1) (q4 : xm_V X P d 261 [.ref l0, .int r0] (xm_si (xm_si (xm_si (xm_si h0 l0 15 l1) l0 16 l2) l0 24 l3) l0 25 l4) none h1) (q5 : xm_V X P d 266 [.ref l0] h1 (some (.int r2)) h2) (q6 : r2 = (1000000000 : Int32)) : xm_E X P d co_X11_searches 0 [some (.ref l0), some (.int l1), some (.int l2), some (.int l3), some (.int l4), none, none] [] h (some (.int (-1 : Int32))) h2 := by
  refine xm_E_s r_X11_searches_0 rfl rfl ?_
  refine xm_E_cv [.ref l0] [] r_X11_searches_1 rfl rfl (Nat.le_of_ble_eq_true rfl) (xm_rc q1 (by decide)) rfl q0 ?_
  refine xm_E_s (ls1 := [some (.ref l0), some (.int l1), some (.int l2), some (.int l3), some (.int l4), some (.int r0), none]) r_X11_searches_2 rfl rfl ?_
  refine xm_E_s r_X11_searches_3 rfl rfl ?_
  refine xm_E_s r_X11_searches_4 rfl rfl ?_
  refine xm_E_s r_X11_searches_5 rfl (xm_T_pi rfl q1 rfl rfl) ?_
  refine xm_E_s r_X11_searches_6 rfl rfl ?_
  refine xm_E_s r_X11_searches_7 rfl rfl ?_
  refine xm_E_s r_X11_searches_8 rfl (xm_T_pz rfl q1 rfl rfl q2) ?_
  refine xm_E_s r_X11_searches_9 rfl rfl ?_
  refine xm_E_s r_X11_searches_10 rfl rfl ?_
  refine xm_E_s r_X11_searches_11 rfl (xm_T_pi rfl q1 rfl rfl) ?_
  refine xm_E_s r_X11_searches_12 rfl rfl ?_
  refine xm_E_s r_X11_searches_13 rfl rfl ?_
  refine xm_E_s r_X11_searches_14 rfl (xm_T_pz rfl q1 rfl rfl q3) ?_
  refine xm_E_s r_X11_searches_15 rfl rfl ?_
  refine xm_E_s r_X11_searches_16 rfl rfl ?_
  refine xm_E_cv [.ref l0, .int r0] [] r_X11_searches_17 rfl rfl (Nat.le_of_ble_eq_true rfl) (xm_rc q1 (by decide)) rfl q4 ?_
  refine xm_E_s r_X11_searches_18 rfl rfl ?_
  refine xm_E_cv [.ref l0] [] r_X11_searches_19 rfl rfl (Nat.le_of_ble_eq_true rfl) (xm_rc q1 (by decide)) rfl q5 ?_
  refine xm_E_s (ls1 := [some (.ref l0), some (.int l1), some (.int l2), some (.int l3), some (.int l4), some (.int r0), some (.int r2)]) r_X11_searches_20 rfl rfl ?_
  refine xm_E_s r_X11_searches_21 rfl rfl ?_
  refine xm_E_s r_X11_searches_22 rfl rfl ?_
  refine xm_E_s r_X11_searches_23 rfl rfl ?_
  refine xm_E_t q6 ?_
  refine xm_E_s r_X11_searches_24 rfl rfl ?_
  refine xm_E_s r_X11_searches_25 rfl rfl ?_
  exact xm_E_iret r_X11_searches_27 rfl rfl
theorem p_X11_searches_0_1 {X : xm_X} {P : List xm_M} {d : Nat} {h : xm_H} {l0 : Nat} {l1 : Int32} {l2 : Int32} {l3 : Int32} {l4 : Int32} {h0 : xm_H} {r0 : Int32} {h1 : xm_H} {h2 : xm_H} {r2 : Int32} (q0 : xm_V X P d 218 [.ref l0] h (some (.int r0)) h0) (q1 : X.1[l0]? = some (.inr 10)) (q2 : l2 = 0 ∨ l2 = 1) (q3 : l4 = 0 ∨ l4 = 1) (q4 : xm_V X P d 261 [.ref l0, .int r0] (xm_si (xm_si (xm_si (xm_si h0 l0 15 l1) l0 16 l2) l0 24 l3) l0 25 l4) none h1) (q5 : xm_V X P d 266 [.ref l0] h1 (some (.int r2)) h2) (q6 : ¬ (r2 = (1000000000 : Int32))) : xm_E X P d co_X11_searches 0 [some (.ref l0), some (.int l1), some (.int l2), some (.int l3), some (.int l4), none, none] [] h (some (.int r2)) h2 := by
  refine xm_E_s r_X11_searches_0 rfl rfl ?_
  refine xm_E_cv [.ref l0] [] r_X11_searches_1 rfl rfl (Nat.le_of_ble_eq_true rfl) (xm_rc q1 (by decide)) rfl q0 ?_
  refine xm_E_s (ls1 := [some (.ref l0), some (.int l1), some (.int l2), some (.int l3), some (.int l4), some (.int r0), none]) r_X11_searches_2 rfl rfl ?_
  refine xm_E_s r_X11_searches_3 rfl rfl ?_
  refine xm_E_s r_X11_searches_4 rfl rfl ?_
  refine xm_E_s r_X11_searches_5 rfl (xm_T_pi rfl q1 rfl rfl) ?_
  refine xm_E_s r_X11_searches_6 rfl rfl ?_
  refine xm_E_s r_X11_searches_7 rfl rfl ?_
  refine xm_E_s r_X11_searches_8 rfl (xm_T_pz rfl q1 rfl rfl q2) ?_
  refine xm_E_s r_X11_searches_9 rfl rfl ?_
  refine xm_E_s r_X11_searches_10 rfl rfl ?_
  refine xm_E_s r_X11_searches_11 rfl (xm_T_pi rfl q1 rfl rfl) ?_
  refine xm_E_s r_X11_searches_12 rfl rfl ?_
  refine xm_E_s r_X11_searches_13 rfl rfl ?_
  refine xm_E_s r_X11_searches_14 rfl (xm_T_pz rfl q1 rfl rfl q3) ?_
  refine xm_E_s r_X11_searches_15 rfl rfl ?_
  refine xm_E_s r_X11_searches_16 rfl rfl ?_
  refine xm_E_cv [.ref l0, .int r0] [] r_X11_searches_17 rfl rfl (Nat.le_of_ble_eq_true rfl) (xm_rc q1 (by decide)) rfl q4 ?_
  refine xm_E_s r_X11_searches_18 rfl rfl ?_
  refine xm_E_cv [.ref l0] [] r_X11_searches_19 rfl rfl (Nat.le_of_ble_eq_true rfl) (xm_rc q1 (by decide)) rfl q5 ?_
  refine xm_E_s (ls1 := [some (.ref l0), some (.int l1), some (.int l2), some (.int l3), some (.int l4), some (.int r0), some (.int r2)]) r_X11_searches_20 rfl rfl ?_
  refine xm_E_s r_X11_searches_21 rfl rfl ?_
  refine xm_E_s r_X11_searches_22 rfl rfl ?_
  refine xm_E_s r_X11_searches_23 rfl rfl ?_
  refine xm_E_f q6 ?_
  refine xm_E_s r_X11_searches_26 rfl rfl ?_
  exact xm_E_iret r_X11_searches_27 rfl rfl
theorem r_X11_spreads_0 : co_X11_spreads[0]? = some ((0, .iconst 0, 0, 0, 0, 0, 0, 0, []) : xm_I) := rfl
theorem r_X11_spreads_1 : co_X11_spreads[1]? = some ((1, .istore_n 2, 0, 0, 0, 0, 0, 0, []) : xm_I) := rfl
theorem r_X11_spreads_2 : co_X11_spreads[2]? = some ((2, .iload_n 2, 0, 0, 0, 0, 0, 0, []) : xm_I) := rfl
theorem r_X11_spreads_3 : co_X11_spreads[3]? = some ((3, .ldc 34, 1379, 0, 0, 0, 120050, 0, []) : xm_I) := rfl
theorem r_X11_spreads_4 : co_X11_spreads[4]? = some ((5, .if_icmp .ge 18, 0, 0, 12, 0, 0, 0, []) : xm_I) := rfl
theorem r_X11_spreads_5 : co_X11_spreads[5]? = some ((8, .aload_n 0, 0, 0, 0, 0, 0, 0, []) : xm_I) := rfl
theorem r_X11_spreads_6 : co_X11_spreads[6]? = some ((9, .getfield 35, 1400, 10, 20, 2, 0, 0, []) : xm_I) := rfl
theorem r_X11_spreads_7 : co_X11_spreads[7]? = some ((12, .iload_n 2, 0, 0, 0, 0, 0, 0, []) : xm_I) := rfl
theorem r_X11_spreads_8 : co_X11_spreads[8]? = some ((13, .ldc_w 386, 1818, 0, 0, 0, 1000000000, 0, []) : xm_I) := rfl
theorem r_X11_spreads_9 : co_X11_spreads[9]? = some ((16, .iastore, 0, 0, 0, 0, 0, 0, []) : xm_I) := rfl
theorem r_X11_spreads_10 : co_X11_spreads[10]? = some ((17, .iinc 2 1, 0, 0, 0, 0, 1, 0, []) : xm_I) := rfl
theorem r_X11_spreads_11 : co_X11_spreads[11]? = some ((20, .goto (-18), 0, 0, 2, 0, 0, 0, []) : xm_I) := rfl
theorem r_X11_spreads_12 : co_X11_spreads[12]? = some ((23, .aload_n 0, 0, 0, 0, 0, 0, 0, []) : xm_I) := rfl
theorem r_X11_spreads_13 : co_X11_spreads[13]? = some ((24, .getfield 35, 1400, 10, 20, 2, 0, 0, []) : xm_I) := rfl
theorem r_X11_spreads_14 : co_X11_spreads[14]? = some ((27, .iload_n 1, 0, 0, 0, 0, 0, 0, []) : xm_I) := rfl
theorem r_X11_spreads_15 : co_X11_spreads[15]? = some ((28, .iconst 0, 0, 0, 0, 0, 0, 0, []) : xm_I) := rfl
theorem r_X11_spreads_16 : co_X11_spreads[16]? = some ((29, .iastore, 0, 0, 0, 0, 0, 0, []) : xm_I) := rfl
theorem r_X11_spreads_17 : co_X11_spreads[17]? = some ((30, .aload_n 0, 0, 0, 0, 0, 0, 0, []) : xm_I) := rfl
theorem r_X11_spreads_18 : co_X11_spreads[18]? = some ((31, .getfield 41, 1402, 10, 22, 2, 0, 0, []) : xm_I) := rfl
theorem r_X11_spreads_19 : co_X11_spreads[19]? = some ((34, .iconst 0, 0, 0, 0, 0, 0, 0, []) : xm_I) := rfl
theorem r_X11_spreads_20 : co_X11_spreads[20]? = some ((35, .iload_n 1, 0, 0, 0, 0, 0, 0, []) : xm_I) := rfl
theorem r_X11_spreads_21 : co_X11_spreads[21]? = some ((36, .iastore, 0, 0, 0, 0, 0, 0, []) : xm_I) := rfl
theorem r_X11_spreads_22 : co_X11_spreads[22]? = some ((37, .aload_n 0, 0, 0, 0, 0, 0, 0, []) : xm_I) := rfl
theorem r_X11_spreads_23 : co_X11_spreads[23]? = some ((38, .iconst 1, 0, 0, 0, 0, 1, 0, []) : xm_I) := rfl
theorem r_X11_spreads_24 : co_X11_spreads[24]? = some ((39, .putfield 387, 1403, 10, 23, 0, 0, 0, []) : xm_I) := rfl
theorem r_X11_spreads_25 : co_X11_spreads[25]? = some ((42, .iconst 0, 0, 0, 0, 0, 0, 0, []) : xm_I) := rfl
theorem r_X11_spreads_26 : co_X11_spreads[26]? = some ((43, .istore_n 2, 0, 0, 0, 0, 0, 0, []) : xm_I) := rfl
theorem r_X11_spreads_27 : co_X11_spreads[27]? = some ((44, .iload_n 2, 0, 0, 0, 0, 0, 0, []) : xm_I) := rfl
theorem r_X11_spreads_28 : co_X11_spreads[28]? = some ((45, .aload_n 0, 0, 0, 0, 0, 0, 0, []) : xm_I) := rfl
theorem r_X11_spreads_29 : co_X11_spreads[29]? = some ((46, .getfield 387, 1403, 10, 23, 0, 0, 0, []) : xm_I) := rfl
theorem r_X11_spreads_30 : co_X11_spreads[30]? = some ((49, .if_icmp .ge 94, 0, 0, 78, 0, 0, 0, []) : xm_I) := rfl
theorem r_X11_spreads_31 : co_X11_spreads[31]? = some ((52, .aload_n 0, 0, 0, 0, 0, 0, 0, []) : xm_I) := rfl
theorem r_X11_spreads_32 : co_X11_spreads[32]? = some ((53, .getfield 41, 1402, 10, 22, 2, 0, 0, []) : xm_I) := rfl
theorem r_X11_spreads_33 : co_X11_spreads[33]? = some ((56, .iload_n 2, 0, 0, 0, 0, 0, 0, []) : xm_I) := rfl
theorem r_X11_spreads_34 : co_X11_spreads[34]? = some ((57, .iaload, 0, 0, 0, 0, 0, 0, []) : xm_I) := rfl
theorem r_X11_spreads_35 : co_X11_spreads[35]? = some ((58, .istore_n 3, 0, 0, 0, 0, 0, 0, []) : xm_I) := rfl
theorem r_X11_spreads_36 : co_X11_spreads[36]? = some ((59, .iconst 0, 0, 0, 0, 0, 0, 0, []) : xm_I) := rfl
theorem r_X11_spreads_37 : co_X11_spreads[37]? = some ((60, .istore 4, 0, 0, 0, 0, 0, 0, []) : xm_I) := rfl
theorem r_X11_spreads_38 : co_X11_spreads[38]? = some ((62, .iload 4, 0, 0, 0, 0, 0, 0, []) : xm_I) := rfl
theorem r_X11_spreads_39 : co_X11_spreads[39]? = some ((64, .aload_n 0, 0, 0, 0, 0, 0, 0, []) : xm_I) := rfl
theorem r_X11_spreads_40 : co_X11_spreads[40]? = some ((65, .invokevirtual 390, 1819, 262, 1, 10, 0, 0, []) : xm_I) := rfl
theorem r_X11_spreads_41 : co_X11_spreads[41]? = some ((68, .if_icmp .ge 69, 0, 0, 76, 0, 0, 0, []) : xm_I) := rfl
theorem r_X11_spreads_42 : co_X11_spreads[42]? = some ((71, .aload_n 0, 0, 0, 0, 0, 0, 0, []) : xm_I) := rfl
theorem r_X11_spreads_43 : co_X11_spreads[43]? = some ((72, .iload_n 3, 0, 0, 0, 0, 0, 0, []) : xm_I) := rfl
theorem r_X11_spreads_44 : co_X11_spreads[44]? = some ((73, .iload 4, 0, 0, 0, 0, 0, 0, []) : xm_I) := rfl
theorem r_X11_spreads_45 : co_X11_spreads[45]? = some ((75, .invokevirtual 393, 1823, 263, 3, 10, 0, 0, []) : xm_I) := rfl
theorem r_X11_spreads_46 : co_X11_spreads[46]? = some ((78, .istore 5, 0, 0, 0, 0, 0, 0, []) : xm_I) := rfl
theorem r_X11_spreads_47 : co_X11_spreads[47]? = some ((80, .iload 5, 0, 0, 0, 0, 0, 0, []) : xm_I) := rfl
theorem r_X11_spreads_48 : co_X11_spreads[48]? = some ((82, .iconst (-1), 0, 0, 0, 0, (-1), 0, []) : xm_I) := rfl
theorem r_X11_spreads_49 : co_X11_spreads[49]? = some ((83, .if_icmp .eq 48, 0, 0, 74, 0, 0, 0, []) : xm_I) := rfl
theorem r_X11_spreads_50 : co_X11_spreads[50]? = some ((86, .aload_n 0, 0, 0, 0, 0, 0, 0, []) : xm_I) := rfl
theorem r_X11_spreads_51 : co_X11_spreads[51]? = some ((87, .getfield 35, 1400, 10, 20, 2, 0, 0, []) : xm_I) := rfl
theorem r_X11_spreads_52 : co_X11_spreads[52]? = some ((90, .iload 5, 0, 0, 0, 0, 0, 0, []) : xm_I) := rfl
theorem r_X11_spreads_53 : co_X11_spreads[53]? = some ((92, .iaload, 0, 0, 0, 0, 0, 0, []) : xm_I) := rfl
theorem r_X11_spreads_54 : co_X11_spreads[54]? = some ((93, .ldc_w 386, 1818, 0, 0, 0, 1000000000, 0, []) : xm_I) := rfl
theorem r_X11_spreads_55 : co_X11_spreads[55]? = some ((96, .if_icmp .ge 6, 0, 0, 57, 0, 0, 0, []) : xm_I) := rfl
theorem r_X11_spreads_56 : co_X11_spreads[56]? = some ((99, .goto 32, 0, 0, 74, 0, 0, 0, []) : xm_I) := rfl
theorem r_X11_spreads_57 : co_X11_spreads[57]? = some ((102, .aload_n 0, 0, 0, 0, 0, 0, 0, []) : xm_I) := rfl
theorem r_X11_spreads_58 : co_X11_spreads[58]? = some ((103, .getfield 35, 1400, 10, 20, 2, 0, 0, []) : xm_I) := rfl
theorem r_X11_spreads_59 : co_X11_spreads[59]? = some ((106, .iload 5, 0, 0, 0, 0, 0, 0, []) : xm_I) := rfl
theorem r_X11_spreads_60 : co_X11_spreads[60]? = some ((108, .iconst 0, 0, 0, 0, 0, 0, 0, []) : xm_I) := rfl
theorem r_X11_spreads_61 : co_X11_spreads[61]? = some ((109, .iastore, 0, 0, 0, 0, 0, 0, []) : xm_I) := rfl
theorem r_X11_spreads_62 : co_X11_spreads[62]? = some ((110, .aload_n 0, 0, 0, 0, 0, 0, 0, []) : xm_I) := rfl
theorem r_X11_spreads_63 : co_X11_spreads[63]? = some ((111, .getfield 41, 1402, 10, 22, 2, 0, 0, []) : xm_I) := rfl
theorem r_X11_spreads_64 : co_X11_spreads[64]? = some ((114, .aload_n 0, 0, 0, 0, 0, 0, 0, []) : xm_I) := rfl
theorem r_X11_spreads_65 : co_X11_spreads[65]? = some ((115, .getfield 387, 1403, 10, 23, 0, 0, 0, []) : xm_I) := rfl
theorem r_X11_spreads_66 : co_X11_spreads[66]? = some ((118, .iload 5, 0, 0, 0, 0, 0, 0, []) : xm_I) := rfl
theorem r_X11_spreads_67 : co_X11_spreads[67]? = some ((120, .iastore, 0, 0, 0, 0, 0, 0, []) : xm_I) := rfl
theorem r_X11_spreads_68 : co_X11_spreads[68]? = some ((121, .aload_n 0, 0, 0, 0, 0, 0, 0, []) : xm_I) := rfl
theorem r_X11_spreads_69 : co_X11_spreads[69]? = some ((122, .dup, 0, 0, 0, 0, 0, 0, []) : xm_I) := rfl
theorem r_X11_spreads_70 : co_X11_spreads[70]? = some ((123, .getfield 387, 1403, 10, 23, 0, 0, 0, []) : xm_I) := rfl
theorem r_X11_spreads_71 : co_X11_spreads[71]? = some ((126, .iconst 1, 0, 0, 0, 0, 1, 0, []) : xm_I) := rfl
theorem r_X11_spreads_72 : co_X11_spreads[72]? = some ((127, .iadd, 0, 0, 0, 0, 0, 0, []) : xm_I) := rfl
theorem r_X11_spreads_73 : co_X11_spreads[73]? = some ((128, .putfield 387, 1403, 10, 23, 0, 0, 0, []) : xm_I) := rfl
theorem r_X11_spreads_74 : co_X11_spreads[74]? = some ((131, .iinc 4 1, 0, 0, 0, 0, 1, 0, []) : xm_I) := rfl
theorem r_X11_spreads_75 : co_X11_spreads[75]? = some ((134, .goto (-72), 0, 0, 38, 0, 0, 0, []) : xm_I) := rfl
theorem r_X11_spreads_76 : co_X11_spreads[76]? = some ((137, .iinc 2 1, 0, 0, 0, 0, 1, 0, []) : xm_I) := rfl
theorem r_X11_spreads_77 : co_X11_spreads[77]? = some ((140, .goto (-96), 0, 0, 27, 0, 0, 0, []) : xm_I) := rfl
theorem r_X11_spreads_78 : co_X11_spreads[78]? = some ((143, .iconst 1, 0, 0, 0, 0, 1, 0, []) : xm_I) := rfl
theorem r_X11_spreads_79 : co_X11_spreads[79]? = some ((144, .istore_n 2, 0, 0, 0, 0, 0, 0, []) : xm_I) := rfl
theorem r_X11_spreads_80 : co_X11_spreads[80]? = some ((145, .iload_n 2, 0, 0, 0, 0, 0, 0, []) : xm_I) := rfl
theorem r_X11_spreads_81 : co_X11_spreads[81]? = some ((146, .aload_n 0, 0, 0, 0, 0, 0, 0, []) : xm_I) := rfl
theorem r_X11_spreads_82 : co_X11_spreads[82]? = some ((147, .getfield 387, 1403, 10, 23, 0, 0, 0, []) : xm_I) := rfl
theorem r_X11_spreads_83 : co_X11_spreads[83]? = some ((150, .if_icmp .ge 23, 0, 0, 94, 0, 0, 0, []) : xm_I) := rfl
theorem r_X11_spreads_84 : co_X11_spreads[84]? = some ((153, .aload_n 0, 0, 0, 0, 0, 0, 0, []) : xm_I) := rfl
theorem r_X11_spreads_85 : co_X11_spreads[85]? = some ((154, .getfield 35, 1400, 10, 20, 2, 0, 0, []) : xm_I) := rfl
theorem r_X11_spreads_86 : co_X11_spreads[86]? = some ((157, .aload_n 0, 0, 0, 0, 0, 0, 0, []) : xm_I) := rfl
theorem r_X11_spreads_87 : co_X11_spreads[87]? = some ((158, .getfield 41, 1402, 10, 22, 2, 0, 0, []) : xm_I) := rfl
theorem r_X11_spreads_88 : co_X11_spreads[88]? = some ((161, .iload_n 2, 0, 0, 0, 0, 0, 0, []) : xm_I) := rfl
theorem r_X11_spreads_89 : co_X11_spreads[89]? = some ((162, .iaload, 0, 0, 0, 0, 0, 0, []) : xm_I) := rfl
theorem r_X11_spreads_90 : co_X11_spreads[90]? = some ((163, .ldc_w 386, 1818, 0, 0, 0, 1000000000, 0, []) : xm_I) := rfl
theorem r_X11_spreads_91 : co_X11_spreads[91]? = some ((166, .iastore, 0, 0, 0, 0, 0, 0, []) : xm_I) := rfl
theorem r_X11_spreads_92 : co_X11_spreads[92]? = some ((167, .iinc 2 1, 0, 0, 0, 0, 1, 0, []) : xm_I) := rfl
theorem r_X11_spreads_93 : co_X11_spreads[93]? = some ((170, .goto (-25), 0, 0, 80, 0, 0, 0, []) : xm_I) := rfl
theorem r_X11_spreads_94 : co_X11_spreads[94]? = some ((173, .iconst 1, 0, 0, 0, 0, 1, 0, []) : xm_I) := rfl
theorem r_X11_spreads_95 : co_X11_spreads[95]? = some ((174, .istore_n 2, 0, 0, 0, 0, 0, 0, []) : xm_I) := rfl
theorem r_X11_spreads_96 : co_X11_spreads[96]? = some ((175, .iload_n 2, 0, 0, 0, 0, 0, 0, []) : xm_I) := rfl
theorem r_X11_spreads_97 : co_X11_spreads[97]? = some ((176, .ifCond .eq 47, 0, 0, 122, 0, 0, 0, []) : xm_I) := rfl
theorem r_X11_spreads_98 : co_X11_spreads[98]? = some ((179, .iconst 0, 0, 0, 0, 0, 0, 0, []) : xm_I) := rfl
theorem r_X11_spreads_99 : co_X11_spreads[99]? = some ((180, .istore_n 2, 0, 0, 0, 0, 0, 0, []) : xm_I) := rfl
theorem r_X11_spreads_100 : co_X11_spreads[100]? = some ((181, .iconst 0, 0, 0, 0, 0, 0, 0, []) : xm_I) := rfl
theorem r_X11_spreads_101 : co_X11_spreads[101]? = some ((182, .istore_n 3, 0, 0, 0, 0, 0, 0, []) : xm_I) := rfl
theorem r_X11_spreads_102 : co_X11_spreads[102]? = some ((183, .iload_n 3, 0, 0, 0, 0, 0, 0, []) : xm_I) := rfl
theorem r_X11_spreads_103 : co_X11_spreads[103]? = some ((184, .aload_n 0, 0, 0, 0, 0, 0, 0, []) : xm_I) := rfl
theorem r_X11_spreads_104 : co_X11_spreads[104]? = some ((185, .getfield 387, 1403, 10, 23, 0, 0, 0, []) : xm_I) := rfl
theorem r_X11_spreads_105 : co_X11_spreads[105]? = some ((188, .if_icmp .ge 32, 0, 0, 121, 0, 0, 0, []) : xm_I) := rfl
theorem r_X11_spreads_106 : co_X11_spreads[106]? = some ((191, .aload_n 0, 0, 0, 0, 0, 0, 0, []) : xm_I) := rfl
theorem r_X11_spreads_107 : co_X11_spreads[107]? = some ((192, .aload_n 0, 0, 0, 0, 0, 0, 0, []) : xm_I) := rfl
theorem r_X11_spreads_108 : co_X11_spreads[108]? = some ((193, .getfield 41, 1402, 10, 22, 2, 0, 0, []) : xm_I) := rfl
theorem r_X11_spreads_109 : co_X11_spreads[109]? = some ((196, .iload_n 3, 0, 0, 0, 0, 0, 0, []) : xm_I) := rfl
theorem r_X11_spreads_110 : co_X11_spreads[110]? = some ((197, .iaload, 0, 0, 0, 0, 0, 0, []) : xm_I) := rfl
theorem r_X11_spreads_111 : co_X11_spreads[111]? = some ((198, .invokevirtual 396, 1827, 264, 2, 10, 0, 0, []) : xm_I) := rfl
theorem r_X11_spreads_112 : co_X11_spreads[112]? = some ((201, .ifCond .ne 7, 0, 0, 115, 0, 0, 0, []) : xm_I) := rfl
theorem r_X11_spreads_113 : co_X11_spreads[113]? = some ((204, .iload_n 2, 0, 0, 0, 0, 0, 0, []) : xm_I) := rfl
theorem r_X11_spreads_114 : co_X11_spreads[114]? = some ((205, .ifCond .eq 7, 0, 0, 117, 0, 0, 0, []) : xm_I) := rfl
theorem r_X11_spreads_115 : co_X11_spreads[115]? = some ((208, .iconst 1, 0, 0, 0, 0, 1, 0, []) : xm_I) := rfl
theorem r_X11_spreads_116 : co_X11_spreads[116]? = some ((209, .goto 4, 0, 0, 118, 0, 0, 0, []) : xm_I) := rfl
theorem r_X11_spreads_117 : co_X11_spreads[117]? = some ((212, .iconst 0, 0, 0, 0, 0, 0, 0, []) : xm_I) := rfl
theorem r_X11_spreads_118 : co_X11_spreads[118]? = some ((213, .istore_n 2, 0, 0, 0, 0, 0, 0, []) : xm_I) := rfl
theorem r_X11_spreads_119 : co_X11_spreads[119]? = some ((214, .iinc 3 1, 0, 0, 0, 0, 1, 0, []) : xm_I) := rfl
theorem r_X11_spreads_120 : co_X11_spreads[120]? = some ((217, .goto (-34), 0, 0, 102, 0, 0, 0, []) : xm_I) := rfl
theorem r_X11_spreads_121 : co_X11_spreads[121]? = some ((220, .goto (-45), 0, 0, 96, 0, 0, 0, []) : xm_I) := rfl
theorem r_X11_spreads_122 : co_X11_spreads[122]? = some ((223, .return_, 0, 0, 0, 0, 0, 0, []) : xm_I) := rfl
theorem p_X11_spreads_0_0 {X : xm_X} {P : List xm_M} {d : Nat} {h : xm_H} {l0 : Nat} {l1 : Int32} {ro : Option Value} {ho : xm_H}  (K : xm_E X P d co_X11_spreads 2 [some (.ref l0), some (.int l1), some (.int (0 : Int32)), none, none, none] [] h ro ho) : xm_E X P d co_X11_spreads 0 [some (.ref l0), some (.int l1), none, none, none, none] [] h ro ho := by
  refine xm_E_s r_X11_spreads_0 rfl rfl ?_
  refine xm_E_s (ls1 := [some (.ref l0), some (.int l1), some (.int (0 : Int32)), none, none, none]) r_X11_spreads_1 rfl rfl ?_
  exact K
theorem p_X11_spreads_2_0 {X : xm_X} {P : List xm_M} {d : Nat} {h : xm_H} {l0 : Nat} {l1 : Int32} {l2 : Int32} {v0 : Nat} {n1 : Nat} {v2 : Nat} {n3 : Nat} {ro : Option Value} {ho : xm_H} (q0 : (120050 : Int32) ≤ l2) (q1 : X.1[l0]? = some (.inr 10)) (q2 : h.2.2 l0 20 = some v0) (q3 : X.1[v0]? = some (.inl (0, n1))) (q4 : ¬ (l1 < 0 ∨ n1 ≤ l1.toNatClampNeg)) (q5 : (xm_si h v0 l1.toNatClampNeg (0 : Int32)).2.2 l0 22 = some v2) (q6 : X.1[v2]? = some (.inl (0, n3))) (q7 : 0 < n3) (K : xm_E X P d co_X11_spreads 27 [some (.ref l0), some (.int l1), some (.int (0 : Int32)), none, none, none] [] (xm_si (xm_si (xm_si h v0 l1.toNatClampNeg (0 : Int32)) v2 0 l1) l0 23 (1 : Int32)) ro ho) : xm_E X P d co_X11_spreads 2 [some (.ref l0), some (.int l1), some (.int l2), none, none, none] [] h ro ho := by
  refine xm_E_s r_X11_spreads_2 rfl rfl ?_
  refine xm_E_s r_X11_spreads_3 rfl rfl ?_
  refine xm_E_s r_X11_spreads_4 rfl rfl ?_
  refine xm_E_t q0 ?_
  refine xm_E_s r_X11_spreads_12 rfl rfl ?_
  refine xm_E_s r_X11_spreads_13 rfl (xm_T_gr rfl q1 rfl rfl q2) ?_
  refine xm_E_s r_X11_spreads_14 rfl rfl ?_
  refine xm_E_s r_X11_spreads_15 rfl rfl ?_
  refine xm_E_s r_X11_spreads_16 rfl (xm_T_asi rfl q3 q4) ?_
  refine xm_E_s r_X11_spreads_17 rfl rfl ?_
  refine xm_E_s r_X11_spreads_18 rfl (xm_T_gr rfl q1 rfl rfl q5) ?_
  refine xm_E_s r_X11_spreads_19 rfl rfl ?_
  refine xm_E_s r_X11_spreads_20 rfl rfl ?_
  refine xm_E_s r_X11_spreads_21 rfl (xm_T_asi rfl q6 (fun e => e.elim (fun e => absurd e (by decide)) (fun e => Nat.not_le.mpr q7 e))) ?_
  refine xm_E_s r_X11_spreads_22 rfl rfl ?_
  refine xm_E_s r_X11_spreads_23 rfl rfl ?_
  refine xm_E_s r_X11_spreads_24 rfl (xm_T_pi rfl q1 rfl rfl) ?_
  refine xm_E_s r_X11_spreads_25 rfl rfl ?_
  refine xm_E_s (ls1 := [some (.ref l0), some (.int l1), some (.int (0 : Int32)), none, none, none]) r_X11_spreads_26 rfl rfl ?_
  exact K
theorem p_X11_spreads_2_1 {X : xm_X} {P : List xm_M} {d : Nat} {h : xm_H} {l0 : Nat} {l1 : Int32} {l2 : Int32} {v0 : Nat} {n1 : Nat} {ro : Option Value} {ho : xm_H} (q0 : ¬ ((120050 : Int32) ≤ l2)) (q1 : X.1[l0]? = some (.inr 10)) (q2 : h.2.2 l0 20 = some v0) (q3 : X.1[v0]? = some (.inl (0, n1))) (q4 : ¬ (l2 < 0 ∨ n1 ≤ l2.toNatClampNeg)) (K : xm_E X P d co_X11_spreads 2 [some (.ref l0), some (.int l1), some (.int (l2 + (1 : Int32))), none, none, none] [] (xm_si h v0 l2.toNatClampNeg (1000000000 : Int32)) ro ho) : xm_E X P d co_X11_spreads 2 [some (.ref l0), some (.int l1), some (.int l2), none, none, none] [] h ro ho := by
  refine xm_E_s r_X11_spreads_2 rfl rfl ?_
  refine xm_E_s r_X11_spreads_3 rfl rfl ?_
  refine xm_E_s r_X11_spreads_4 rfl rfl ?_
  refine xm_E_f q0 ?_
  refine xm_E_s r_X11_spreads_5 rfl rfl ?_
  refine xm_E_s r_X11_spreads_6 rfl (xm_T_gr rfl q1 rfl rfl q2) ?_
  refine xm_E_s r_X11_spreads_7 rfl rfl ?_
  refine xm_E_s r_X11_spreads_8 rfl rfl ?_
  refine xm_E_s r_X11_spreads_9 rfl (xm_T_asi rfl q3 q4) ?_
  refine xm_E_s (ls1 := [some (.ref l0), some (.int l1), some (.int (l2 + (1 : Int32))), none, none, none]) r_X11_spreads_10 rfl rfl ?_
  refine xm_E_s r_X11_spreads_11 rfl rfl ?_
  exact K
theorem p_X11_spreads_27_0 {X : xm_X} {P : List xm_M} {d : Nat} {h : xm_H} {l0 : Nat} {l1 : Int32} {l2 : Int32} {l3 : Option Value} {l4 : Option Value} {l5 : Option Value} {ro : Option Value} {ho : xm_H} (q0 : X.1[l0]? = some (.inr 10)) (q1 : h.1 l0 23 ≤ l2) (K : xm_E X P d co_X11_spreads 80 [some (.ref l0), some (.int l1), some (.int (1 : Int32)), l3, l4, l5] [] h ro ho) : xm_E X P d co_X11_spreads 27 [some (.ref l0), some (.int l1), some (.int l2), l3, l4, l5] [] h ro ho := by
  refine xm_E_s r_X11_spreads_27 rfl rfl ?_
  refine xm_E_s r_X11_spreads_28 rfl rfl ?_
  refine xm_E_s r_X11_spreads_29 rfl (xm_T_gi rfl q0 rfl (Or.inl rfl)) ?_
  refine xm_E_s r_X11_spreads_30 rfl rfl ?_
  refine xm_E_t q1 ?_
  refine xm_E_s r_X11_spreads_78 rfl rfl ?_
  refine xm_E_s (ls1 := [some (.ref l0), some (.int l1), some (.int (1 : Int32)), l3, l4, l5]) r_X11_spreads_79 rfl rfl ?_
  exact K
theorem p_X11_spreads_27_1 {X : xm_X} {P : List xm_M} {d : Nat} {h : xm_H} {l0 : Nat} {l1 : Int32} {l2 : Int32} {l3 : Option Value} {l4 : Option Value} {l5 : Option Value} {v0 : Nat} {n1 : Nat} {ro : Option Value} {ho : xm_H} (q0 : X.1[l0]? = some (.inr 10)) (q1 : ¬ (h.1 l0 23 ≤ l2)) (q2 : h.2.2 l0 22 = some v0) (q3 : X.1[v0]? = some (.inl (0, n1))) (q4 : ¬ (l2 < 0 ∨ n1 ≤ l2.toNatClampNeg)) (K : xm_E X P d co_X11_spreads 38 [some (.ref l0), some (.int l1), some (.int l2), some (.int (h.1 v0 l2.toNatClampNeg)), some (.int (0 : Int32)), l5] [] h ro ho) : xm_E X P d co_X11_spreads 27 [some (.ref l0), some (.int l1), some (.int l2), l3, l4, l5] [] h ro ho := by
  refine xm_E_s r_X11_spreads_27 rfl rfl ?_
  refine xm_E_s r_X11_spreads_28 rfl rfl ?_
  refine xm_E_s r_X11_spreads_29 rfl (xm_T_gi rfl q0 rfl (Or.inl rfl)) ?_
  refine xm_E_s r_X11_spreads_30 rfl rfl ?_
  refine xm_E_f q1 ?_
  refine xm_E_s r_X11_spreads_31 rfl rfl ?_
  refine xm_E_s r_X11_spreads_32 rfl (xm_T_gr rfl q0 rfl rfl q2) ?_
  refine xm_E_s r_X11_spreads_33 rfl rfl ?_
  refine xm_E_s r_X11_spreads_34 rfl (xm_T_iald rfl q3 (by decide) q4) ?_
  refine xm_E_s (ls1 := [some (.ref l0), some (.int l1), some (.int l2), some (.int (h.1 v0 l2.toNatClampNeg)), l4, l5]) r_X11_spreads_35 rfl rfl ?_
  refine xm_E_s r_X11_spreads_36 rfl rfl ?_
  refine xm_E_s (ls1 := [some (.ref l0), some (.int l1), some (.int l2), some (.int (h.1 v0 l2.toNatClampNeg)), some (.int (0 : Int32)), l5]) r_X11_spreads_37 rfl rfl ?_
  exact K
theorem p_X11_spreads_38_0 {X : xm_X} {P : List xm_M} {d : Nat} {h : xm_H} {l0 : Nat} {l1 : Int32} {l2 : Int32} {l3 : Int32} {l4 : Int32} {l5 : Option Value} {h0 : xm_H} {r0 : Int32} {ro : Option Value} {ho : xm_H} (q0 : xm_V X P d 262 [.ref l0] h (some (.int r0)) h0) (q1 : X.1[l0]? = some (.inr 10)) (q2 : r0 ≤ l4) (K : xm_E X P d co_X11_spreads 27 [some (.ref l0), some (.int l1), some (.int (l2 + (1 : Int32))), some (.int l3), some (.int l4), l5] [] h0 ro ho) : xm_E X P d co_X11_spreads 38 [some (.ref l0), some (.int l1), some (.int l2), some (.int l3), some (.int l4), l5] [] h ro ho := by
  refine xm_E_s r_X11_spreads_38 rfl rfl ?_
  refine xm_E_s r_X11_spreads_39 rfl rfl ?_
  refine xm_E_cv [.ref l0] [.int l4] r_X11_spreads_40 rfl rfl (Nat.le_of_ble_eq_true rfl) (xm_rc q1 (by decide)) rfl q0 ?_
  refine xm_E_s r_X11_spreads_41 rfl rfl ?_
  refine xm_E_t q2 ?_
  refine xm_E_s (ls1 := [some (.ref l0), some (.int l1), some (.int (l2 + (1 : Int32))), some (.int l3), some (.int l4), l5]) r_X11_spreads_76 rfl rfl ?_
  refine xm_E_s r_X11_spreads_77 rfl rfl ?_
  exact K
theorem p_X11_spreads_38_1 {X : xm_X} {P : List xm_M} {d : Nat} {h : xm_H} {l0 : Nat} {l1 : Int32} {l2 : Int32} {l3 : Int32} {l4 : Int32} {l5 : Option Value} {h0 : xm_H} {r0 : Int32} {h1 : xm_H} {r1 : Int32} {ro : Option Value} {ho : xm_H} (q0 : xm_V X P d 262 [.ref l0] h (some (.int r0)) h0) (q1 : X.1[l0]? = some (.inr 10)) (q2 : ¬ (r0 ≤ l4)) (q3 : xm_V X P d 263 [.ref l0, .int l3, .int l4] h0 (some (.int r1)) h1) (q4 : r1 = (-1 : Int32)) (K : xm_E X P d co_X11_spreads 38 [some (.ref l0), some (.int l1), some (.int l2), some (.int l3), some (.int (l4 + (1 : Int32))), some (.int r1)] [] h1 ro ho) : xm_E X P d co_X11_spreads 38 [some (.ref l0), some (.int l1), some (.int l2), some (.int l3), some (.int l4), l5] [] h ro ho := by
  refine xm_E_s r_X11_spreads_38 rfl rfl ?_
  refine xm_E_s r_X11_spreads_39 rfl rfl ?_
  refine xm_E_cv [.ref l0] [.int l4] r_X11_spreads_40 rfl rfl (Nat.le_of_ble_eq_true rfl) (xm_rc q1 (by decide)) rfl q0 ?_
  refine xm_E_s r_X11_spreads_41 rfl rfl ?_
  refine xm_E_f q2 ?_
  refine xm_E_s r_X11_spreads_42 rfl rfl ?_
  refine xm_E_s r_X11_spreads_43 rfl rfl ?_
  refine xm_E_s r_X11_spreads_44 rfl rfl ?_
  refine xm_E_cv [.ref l0, .int l3, .int l4] [] r_X11_spreads_45 rfl rfl (Nat.le_of_ble_eq_true rfl) (xm_rc q1 (by decide)) rfl q3 ?_
  refine xm_E_s (ls1 := [some (.ref l0), some (.int l1), some (.int l2), some (.int l3), some (.int l4), some (.int r1)]) r_X11_spreads_46 rfl rfl ?_
  refine xm_E_s r_X11_spreads_47 rfl rfl ?_
  refine xm_E_s r_X11_spreads_48 rfl rfl ?_
  refine xm_E_s r_X11_spreads_49 rfl rfl ?_
  refine xm_E_t q4 ?_
  refine xm_E_s (ls1 := [some (.ref l0), some (.int l1), some (.int l2), some (.int l3), some (.int (l4 + (1 : Int32))), some (.int r1)]) r_X11_spreads_74 rfl rfl ?_
  refine xm_E_s r_X11_spreads_75 rfl rfl ?_
  exact K
theorem p_X11_spreads_38_2 {X : xm_X} {P : List xm_M} {d : Nat} {h : xm_H} {l0 : Nat} {l1 : Int32} {l2 : Int32} {l3 : Int32} {l4 : Int32} {l5 : Option Value} {h0 : xm_H} {r0 : Int32} {h1 : xm_H} {r1 : Int32} {v2 : Nat} {n3 : Nat} {v4 : Nat} {n5 : Nat} {ro : Option Value} {ho : xm_H} (q0 : xm_V X P d 262 [.ref l0] h (some (.int r0)) h0) (q1 : X.1[l0]? = some (.inr 10)) (q2 : ¬ (r0 ≤ l4)) (q3 : xm_V X P d 263 [.ref l0, .int l3, .int l4] h0 (some (.int r1)) h1) (q4 : ¬ (r1 = (-1 : Int32))) (q5 : h1.2.2 l0 20 = some v2) (q6 : X.1[v2]? = some (.inl (0, n3))) (q7 : ¬ (r1 < 0 ∨ n3 ≤ r1.toNatClampNeg)) (q8 : (1000000000 : Int32) ≤ h1.1 v2 r1.toNatClampNeg) (q9 : (xm_si h1 v2 r1.toNatClampNeg (0 : Int32)).2.2 l0 22 = some v4) (q10 : X.1[v4]? = some (.inl (0, n5))) (q11 : ¬ ((xm_si h1 v2 r1.toNatClampNeg (0 : Int32)).1 l0 23 < 0 ∨ n5 ≤ ((xm_si h1 v2 r1.toNatClampNeg (0 : Int32)).1 l0 23).toNatClampNeg)) (K : xm_E X P d co_X11_spreads 38 [some (.ref l0), some (.int l1), some (.int l2), some (.int l3), some (.int (l4 + (1 : Int32))), some (.int r1)] [] (xm_si (xm_si (xm_si h1 v2 r1.toNatClampNeg (0 : Int32)) v4 (((xm_si h1 v2 r1.toNatClampNeg (0 : Int32)).1 l0 23).toNatClampNeg) r1) l0 23 (((xm_si (xm_si h1 v2 r1.toNatClampNeg (0 : Int32)) v4 (((xm_si h1 v2 r1.toNatClampNeg (0 : Int32)).1 l0 23).toNatClampNeg) r1).1 l0 23) + (1 : Int32))) ro ho) : xm_E X P d co_X11_spreads 38 [some (.ref l0), some (.int l1), some (.int l2), some (.int l3), some (.int l4), l5] [] h ro ho := by
  refine xm_E_s r_X11_spreads_38 rfl rfl ?_
  refine xm_E_s r_X11_spreads_39 rfl rfl ?_
  refine xm_E_cv [.ref l0] [.int l4] r_X11_spreads_40 rfl rfl (Nat.le_of_ble_eq_true rfl) (xm_rc q1 (by decide)) rfl q0 ?_
  refine xm_E_s r_X11_spreads_41 rfl rfl ?_
  refine xm_E_f q2 ?_
  refine xm_E_s r_X11_spreads_42 rfl rfl ?_
  refine xm_E_s r_X11_spreads_43 rfl rfl ?_
  refine xm_E_s r_X11_spreads_44 rfl rfl ?_
  refine xm_E_cv [.ref l0, .int l3, .int l4] [] r_X11_spreads_45 rfl rfl (Nat.le_of_ble_eq_true rfl) (xm_rc q1 (by decide)) rfl q3 ?_
  refine xm_E_s (ls1 := [some (.ref l0), some (.int l1), some (.int l2), some (.int l3), some (.int l4), some (.int r1)]) r_X11_spreads_46 rfl rfl ?_
  refine xm_E_s r_X11_spreads_47 rfl rfl ?_
  refine xm_E_s r_X11_spreads_48 rfl rfl ?_
  refine xm_E_s r_X11_spreads_49 rfl rfl ?_
  refine xm_E_f q4 ?_
  refine xm_E_s r_X11_spreads_50 rfl rfl ?_
  refine xm_E_s r_X11_spreads_51 rfl (xm_T_gr rfl q1 rfl rfl q5) ?_
  refine xm_E_s r_X11_spreads_52 rfl rfl ?_
  refine xm_E_s r_X11_spreads_53 rfl (xm_T_iald rfl q6 (by decide) q7) ?_
  refine xm_E_s r_X11_spreads_54 rfl rfl ?_
  refine xm_E_s r_X11_spreads_55 rfl rfl ?_
  refine xm_E_t q8 ?_
  refine xm_E_s r_X11_spreads_57 rfl rfl ?_
  refine xm_E_s r_X11_spreads_58 rfl (xm_T_gr rfl q1 rfl rfl q5) ?_
  refine xm_E_s r_X11_spreads_59 rfl rfl ?_
  refine xm_E_s r_X11_spreads_60 rfl rfl ?_
  refine xm_E_s r_X11_spreads_61 rfl (xm_T_asi rfl q6 q7) ?_
  refine xm_E_s r_X11_spreads_62 rfl rfl ?_
  refine xm_E_s r_X11_spreads_63 rfl (xm_T_gr rfl q1 rfl rfl q9) ?_
  refine xm_E_s r_X11_spreads_64 rfl rfl ?_
  refine xm_E_s r_X11_spreads_65 rfl (xm_T_gi rfl q1 rfl (Or.inl rfl)) ?_
  refine xm_E_s r_X11_spreads_66 rfl rfl ?_
  refine xm_E_s r_X11_spreads_67 rfl (xm_T_asi rfl q10 q11) ?_
  refine xm_E_s r_X11_spreads_68 rfl rfl ?_
  refine xm_E_s r_X11_spreads_69 rfl rfl ?_
  refine xm_E_s r_X11_spreads_70 rfl (xm_T_gi rfl q1 rfl (Or.inl rfl)) ?_
  refine xm_E_s r_X11_spreads_71 rfl rfl ?_
  refine xm_E_s r_X11_spreads_72 rfl rfl ?_
  refine xm_E_s r_X11_spreads_73 rfl (xm_T_pi rfl q1 rfl rfl) ?_
  refine xm_E_s (ls1 := [some (.ref l0), some (.int l1), some (.int l2), some (.int l3), some (.int (l4 + (1 : Int32))), some (.int r1)]) r_X11_spreads_74 rfl rfl ?_
  refine xm_E_s r_X11_spreads_75 rfl rfl ?_
  exact K
theorem p_X11_spreads_38_3 {X : xm_X} {P : List xm_M} {d : Nat} {h : xm_H} {l0 : Nat} {l1 : Int32} {l2 : Int32} {l3 : Int32} {l4 : Int32} {l5 : Option Value} {h0 : xm_H} {r0 : Int32} {h1 : xm_H} {r1 : Int32} {v2 : Nat} {n3 : Nat} {ro : Option Value} {ho : xm_H} (q0 : xm_V X P d 262 [.ref l0] h (some (.int r0)) h0) (q1 : X.1[l0]? = some (.inr 10)) (q2 : ¬ (r0 ≤ l4)) (q3 : xm_V X P d 263 [.ref l0, .int l3, .int l4] h0 (some (.int r1)) h1) (q4 : ¬ (r1 = (-1 : Int32))) (q5 : h1.2.2 l0 20 = some v2) (q6 : X.1[v2]? = some (.inl (0, n3))) (q7 : ¬ (r1 < 0 ∨ n3 ≤ r1.toNatClampNeg)) (q8 : ¬ ((1000000000 : Int32) ≤ h1.1 v2 r1.toNatClampNeg)) (K : xm_E X P d co_X11_spreads 38 [some (.ref l0), some (.int l1), some (.int l2), some (.int l3), some (.int (l4 + (1 : Int32))), some (.int r1)] [] h1 ro ho) : xm_E X P d co_X11_spreads 38 [some (.ref l0), some (.int l1), some (.int l2), some (.int l3), some (.int l4), l5] [] h ro ho := by
  refine xm_E_s r_X11_spreads_38 rfl rfl ?_
  refine xm_E_s r_X11_spreads_39 rfl rfl ?_
  refine xm_E_cv [.ref l0] [.int l4] r_X11_spreads_40 rfl rfl (Nat.le_of_ble_eq_true rfl) (xm_rc q1 (by decide)) rfl q0 ?_
  refine xm_E_s r_X11_spreads_41 rfl rfl ?_
  refine xm_E_f q2 ?_
  refine xm_E_s r_X11_spreads_42 rfl rfl ?_
  refine xm_E_s r_X11_spreads_43 rfl rfl ?_
  refine xm_E_s r_X11_spreads_44 rfl rfl ?_
  refine xm_E_cv [.ref l0, .int l3, .int l4] [] r_X11_spreads_45 rfl rfl (Nat.le_of_ble_eq_true rfl) (xm_rc q1 (by decide)) rfl q3 ?_
  refine xm_E_s (ls1 := [some (.ref l0), some (.int l1), some (.int l2), some (.int l3), some (.int l4), some (.int r1)]) r_X11_spreads_46 rfl rfl ?_
  refine xm_E_s r_X11_spreads_47 rfl rfl ?_
  refine xm_E_s r_X11_spreads_48 rfl rfl ?_
  refine xm_E_s r_X11_spreads_49 rfl rfl ?_
  refine xm_E_f q4 ?_
  refine xm_E_s r_X11_spreads_50 rfl rfl ?_
  refine xm_E_s r_X11_spreads_51 rfl (xm_T_gr rfl q1 rfl rfl q5) ?_
  refine xm_E_s r_X11_spreads_52 rfl rfl ?_
  refine xm_E_s r_X11_spreads_53 rfl (xm_T_iald rfl q6 (by decide) q7) ?_
  refine xm_E_s r_X11_spreads_54 rfl rfl ?_
  refine xm_E_s r_X11_spreads_55 rfl rfl ?_
  refine xm_E_f q8 ?_
  refine xm_E_s r_X11_spreads_56 rfl rfl ?_
  refine xm_E_s (ls1 := [some (.ref l0), some (.int l1), some (.int l2), some (.int l3), some (.int (l4 + (1 : Int32))), some (.int r1)]) r_X11_spreads_74 rfl rfl ?_
  refine xm_E_s r_X11_spreads_75 rfl rfl ?_
  exact K
theorem p_X11_spreads_80_0 {X : xm_X} {P : List xm_M} {d : Nat} {h : xm_H} {l0 : Nat} {l1 : Int32} {l2 : Int32} {l3 : Option Value} {l4 : Option Value} {l5 : Option Value} {ro : Option Value} {ho : xm_H} (q0 : X.1[l0]? = some (.inr 10)) (q1 : h.1 l0 23 ≤ l2) (K : xm_E X P d co_X11_spreads 96 [some (.ref l0), some (.int l1), some (.int (1 : Int32)), l3, l4, l5] [] h ro ho) : xm_E X P d co_X11_spreads 80 [some (.ref l0), some (.int l1), some (.int l2), l3, l4, l5] [] h ro ho := by
  refine xm_E_s r_X11_spreads_80 rfl rfl ?_
  refine xm_E_s r_X11_spreads_81 rfl rfl ?_
  refine xm_E_s r_X11_spreads_82 rfl (xm_T_gi rfl q0 rfl (Or.inl rfl)) ?_
  refine xm_E_s r_X11_spreads_83 rfl rfl ?_
  refine xm_E_t q1 ?_
  refine xm_E_s r_X11_spreads_94 rfl rfl ?_
  refine xm_E_s (ls1 := [some (.ref l0), some (.int l1), some (.int (1 : Int32)), l3, l4, l5]) r_X11_spreads_95 rfl rfl ?_
  exact K
theorem p_X11_spreads_80_1 {X : xm_X} {P : List xm_M} {d : Nat} {h : xm_H} {l0 : Nat} {l1 : Int32} {l2 : Int32} {l3 : Option Value} {l4 : Option Value} {l5 : Option Value} {v0 : Nat} {v1 : Nat} {n2 : Nat} {n3 : Nat} {ro : Option Value} {ho : xm_H} (q0 : X.1[l0]? = some (.inr 10)) (q1 : ¬ (h.1 l0 23 ≤ l2)) (q2 : h.2.2 l0 20 = some v0) (q3 : h.2.2 l0 22 = some v1) (q4 : X.1[v1]? = some (.inl (0, n2))) (q5 : ¬ (l2 < 0 ∨ n2 ≤ l2.toNatClampNeg)) (q6 : X.1[v0]? = some (.inl (0, n3))) (q7 : ¬ (h.1 v1 l2.toNatClampNeg < 0 ∨ n3 ≤ (h.1 v1 l2.toNatClampNeg).toNatClampNeg)) (K : xm_E X P d co_X11_spreads 80 [some (.ref l0), some (.int l1), some (.int (l2 + (1 : Int32))), l3, l4, l5] [] (xm_si h v0 ((h.1 v1 l2.toNatClampNeg).toNatClampNeg) (1000000000 : Int32)) ro ho) : xm_E X P d co_X11_spreads 80 [some (.ref l0), some (.int l1), some (.int l2), l3, l4, l5] [] h ro ho := by
  refine xm_E_s r_X11_spreads_80 rfl rfl ?_
  refine xm_E_s r_X11_spreads_81 rfl rfl ?_
  refine xm_E_s r_X11_spreads_82 rfl (xm_T_gi rfl q0 rfl (Or.inl rfl)) ?_
  refine xm_E_s r_X11_spreads_83 rfl rfl ?_
  refine xm_E_f q1 ?_
  refine xm_E_s r_X11_spreads_84 rfl rfl ?_
  refine xm_E_s r_X11_spreads_85 rfl (xm_T_gr rfl q0 rfl rfl q2) ?_
  refine xm_E_s r_X11_spreads_86 rfl rfl ?_
  refine xm_E_s r_X11_spreads_87 rfl (xm_T_gr rfl q0 rfl rfl q3) ?_
  refine xm_E_s r_X11_spreads_88 rfl rfl ?_
  refine xm_E_s r_X11_spreads_89 rfl (xm_T_iald rfl q4 (by decide) q5) ?_
  refine xm_E_s r_X11_spreads_90 rfl rfl ?_
  refine xm_E_s r_X11_spreads_91 rfl (xm_T_asi rfl q6 q7) ?_
  refine xm_E_s (ls1 := [some (.ref l0), some (.int l1), some (.int (l2 + (1 : Int32))), l3, l4, l5]) r_X11_spreads_92 rfl rfl ?_
  refine xm_E_s r_X11_spreads_93 rfl rfl ?_
  exact K
theorem p_X11_spreads_96_0 {X : xm_X} {P : List xm_M} {d : Nat} {h : xm_H} {l0 : Nat} {l1 : Int32} {l2 : Int32} {l3 : Option Value} {l4 : Option Value} {l5 : Option Value} (q0 : l2 = (0 : Int32)) : xm_E X P d co_X11_spreads 96 [some (.ref l0), some (.int l1), some (.int l2), l3, l4, l5] [] h none h := by
  refine xm_E_s r_X11_spreads_96 rfl rfl ?_
  refine xm_E_s r_X11_spreads_97 rfl rfl ?_
  refine xm_E_t q0 ?_
  exact xm_E_ret r_X11_spreads_122 rfl
theorem p_X11_spreads_96_1 {X : xm_X} {P : List xm_M} {d : Nat} {h : xm_H} {l0 : Nat} {l1 : Int32} {l2 : Int32} {l3 : Option Value} {l4 : Option Value} {l5 : Option Value} {ro : Option Value} {ho : xm_H} (q0 : ¬ (l2 = (0 : Int32))) (K : xm_E X P d co_X11_spreads 102 [some (.ref l0), some (.int l1), some (.int (0 : Int32)), some (.int (0 : Int32)), l4, l5] [] h ro ho) : xm_E X P d co_X11_spreads 96 [some (.ref l0), some (.int l1), some (.int l2), l3, l4, l5] [] h ro ho := by
  refine xm_E_s r_X11_spreads_96 rfl rfl ?_
  refine xm_E_s r_X11_spreads_97 rfl rfl ?_
  refine xm_E_f q0 ?_
  refine xm_E_s r_X11_spreads_98 rfl rfl ?_
  refine xm_E_s (ls1 := [some (.ref l0), some (.int l1), some (.int (0 : Int32)), l3, l4, l5]) r_X11_spreads_99 rfl rfl ?_
  refine xm_E_s r_X11_spreads_100 rfl rfl ?_
  refine xm_E_s (ls1 := [some (.ref l0), some (.int l1), some (.int (0 : Int32)), some (.int (0 : Int32)), l4, l5]) r_X11_spreads_101 rfl rfl ?_
  exact K
theorem p_X11_spreads_102_0 {X : xm_X} {P : List xm_M} {d : Nat} {h : xm_H} {l0 : Nat} {l1 : Int32} {l2 : Int32} {l3 : Int32} {l4 : Option Value} {l5 : Option Value} {ro : Option Value} {ho : xm_H} (q0 : X.1[l0]? = some (.inr 10)) (q1 : h.1 l0 23 ≤ l3) (K : xm_E X P d co_X11_spreads 96 [some (.ref l0), some (.int l1), some (.int l2), some (.int l3), l4, l5] [] h ro ho) : xm_E X P d co_X11_spreads 102 [some (.ref l0), some (.int l1), some (.int l2), some (.int l3), l4, l5] [] h ro ho := by
  refine xm_E_s r_X11_spreads_102 rfl rfl ?_
  refine xm_E_s r_X11_spreads_103 rfl rfl ?_
  refine xm_E_s r_X11_spreads_104 rfl (xm_T_gi rfl q0 rfl (Or.inl rfl)) ?_
  refine xm_E_s r_X11_spreads_105 rfl rfl ?_
  refine xm_E_t q1 ?_
  refine xm_E_s r_X11_spreads_121 rfl rfl ?_
  exact K
theorem p_X11_spreads_102_1 {X : xm_X} {P : List xm_M} {d : Nat} {h : xm_H} {l0 : Nat} {l1 : Int32} {l2 : Int32} {l3 : Int32} {l4 : Option Value} {l5 : Option Value} {v0 : Nat} {n1 : Nat} {h2 : xm_H} {r2 : Int32} {ro : Option Value} {ho : xm_H} (q0 : X.1[l0]? = some (.inr 10)) (q1 : ¬ (h.1 l0 23 ≤ l3)) (q2 : h.2.2 l0 22 = some v0) (q3 : X.1[v0]? = some (.inl (0, n1))) (q4 : ¬ (l3 < 0 ∨ n1 ≤ l3.toNatClampNeg)) (q5 : xm_V X P d 264 [.ref l0, .int (h.1 v0 l3.toNatClampNeg)] h (some (.int r2)) h2) (q6 : r2 = (0 : Int32)) (q7 : l2 = (0 : Int32)) (K : xm_E X P d co_X11_spreads 102 [some (.ref l0), some (.int l1), some (.int (0 : Int32)), some (.int (l3 + (1 : Int32))), l4, l5] [] h2 ro ho) : xm_E X P d co_X11_spreads 102 [some (.ref l0), some (.int l1), some (.int l2), some (.int l3), l4, l5] [] h ro ho := by
  refine xm_E_s r_X11_spreads_102 rfl rfl ?_
  refine xm_E_s r_X11_spreads_103 rfl rfl ?_
  refine xm_E_s r_X11_spreads_104 rfl (xm_T_gi rfl q0 rfl (Or.inl rfl)) ?_
  refine xm_E_s r_X11_spreads_105 rfl rfl ?_
  refine xm_E_f q1 ?_
  refine xm_E_s r_X11_spreads_106 rfl rfl ?_
  refine xm_E_s r_X11_spreads_107 rfl rfl ?_
  refine xm_E_s r_X11_spreads_108 rfl (xm_T_gr rfl q0 rfl rfl q2) ?_
  refine xm_E_s r_X11_spreads_109 rfl rfl ?_
  refine xm_E_s r_X11_spreads_110 rfl (xm_T_iald rfl q3 (by decide) q4) ?_
  refine xm_E_cv [.ref l0, .int (h.1 v0 l3.toNatClampNeg)] [] r_X11_spreads_111 rfl rfl (Nat.le_of_ble_eq_true rfl) (xm_rc q0 (by decide)) rfl q5 ?_
  refine xm_E_s r_X11_spreads_112 rfl rfl ?_
  refine xm_E_t q6 ?_
  refine xm_E_s r_X11_spreads_113 rfl rfl ?_
  refine xm_E_s r_X11_spreads_114 rfl rfl ?_
  refine xm_E_t q7 ?_
  refine xm_E_s r_X11_spreads_117 rfl rfl ?_
  refine xm_E_s (ls1 := [some (.ref l0), some (.int l1), some (.int (0 : Int32)), some (.int l3), l4, l5]) r_X11_spreads_118 rfl rfl ?_
  refine xm_E_s (ls1 := [some (.ref l0), some (.int l1), some (.int (0 : Int32)), some (.int (l3 + (1 : Int32))), l4, l5]) r_X11_spreads_119 rfl rfl ?_
  refine xm_E_s r_X11_spreads_120 rfl rfl ?_
  exact K
theorem p_X11_spreads_102_2 {X : xm_X} {P : List xm_M} {d : Nat} {h : xm_H} {l0 : Nat} {l1 : Int32} {l2 : Int32} {l3 : Int32} {l4 : Option Value} {l5 : Option Value} {v0 : Nat} {n1 : Nat} {h2 : xm_H} {r2 : Int32} {ro : Option Value} {ho : xm_H} (q0 : X.1[l0]? = some (.inr 10)) (q1 : ¬ (h.1 l0 23 ≤ l3)) (q2 : h.2.2 l0 22 = some v0) (q3 : X.1[v0]? = some (.inl (0, n1))) (q4 : ¬ (l3 < 0 ∨ n1 ≤ l3.toNatClampNeg)) (q5 : xm_V X P d 264 [.ref l0, .int (h.1 v0 l3.toNatClampNeg)] h (some (.int r2)) h2) (q6 : r2 = (0 : Int32)) (q7 : ¬ (l2 = (0 : Int32))) (K : xm_E X P d co_X11_spreads 102 [some (.ref l0), some (.int l1), some (.int (1 : Int32)), some (.int (l3 + (1 : Int32))), l4, l5] [] h2 ro ho) : xm_E X P d co_X11_spreads 102 [some (.ref l0), some (.int l1), some (.int l2), some (.int l3), l4, l5] [] h ro ho := by
  refine xm_E_s r_X11_spreads_102 rfl rfl ?_
  refine xm_E_s r_X11_spreads_103 rfl rfl ?_
  refine xm_E_s r_X11_spreads_104 rfl (xm_T_gi rfl q0 rfl (Or.inl rfl)) ?_
  refine xm_E_s r_X11_spreads_105 rfl rfl ?_
  refine xm_E_f q1 ?_
  refine xm_E_s r_X11_spreads_106 rfl rfl ?_
  refine xm_E_s r_X11_spreads_107 rfl rfl ?_
  refine xm_E_s r_X11_spreads_108 rfl (xm_T_gr rfl q0 rfl rfl q2) ?_
  refine xm_E_s r_X11_spreads_109 rfl rfl ?_
  refine xm_E_s r_X11_spreads_110 rfl (xm_T_iald rfl q3 (by decide) q4) ?_
  refine xm_E_cv [.ref l0, .int (h.1 v0 l3.toNatClampNeg)] [] r_X11_spreads_111 rfl rfl (Nat.le_of_ble_eq_true rfl) (xm_rc q0 (by decide)) rfl q5 ?_
  refine xm_E_s r_X11_spreads_112 rfl rfl ?_
  refine xm_E_t q6 ?_
  refine xm_E_s r_X11_spreads_113 rfl rfl ?_
  refine xm_E_s r_X11_spreads_114 rfl rfl ?_
  refine xm_E_f q7 ?_
  refine xm_E_s r_X11_spreads_115 rfl rfl ?_
  refine xm_E_s r_X11_spreads_116 rfl rfl ?_
  refine xm_E_s (ls1 := [some (.ref l0), some (.int l1), some (.int (1 : Int32)), some (.int l3), l4, l5]) r_X11_spreads_118 rfl rfl ?_
  refine xm_E_s (ls1 := [some (.ref l0), some (.int l1), some (.int (1 : Int32)), some (.int (l3 + (1 : Int32))), l4, l5]) r_X11_spreads_119 rfl rfl ?_
  refine xm_E_s r_X11_spreads_120 rfl rfl ?_
  exact K
theorem p_X11_spreads_102_3 {X : xm_X} {P : List xm_M} {d : Nat} {h : xm_H} {l0 : Nat} {l1 : Int32} {l2 : Int32} {l3 : Int32} {l4 : Option Value} {l5 : Option Value} {v0 : Nat} {n1 : Nat} {h2 : xm_H} {r2 : Int32} {ro : Option Value} {ho : xm_H} (q0 : X.1[l0]? = some (.inr 10)) (q1 : ¬ (h.1 l0 23 ≤ l3)) (q2 : h.2.2 l0 22 = some v0) (q3 : X.1[v0]? = some (.inl (0, n1))) (q4 : ¬ (l3 < 0 ∨ n1 ≤ l3.toNatClampNeg)) (q5 : xm_V X P d 264 [.ref l0, .int (h.1 v0 l3.toNatClampNeg)] h (some (.int r2)) h2) (q6 : ¬ (r2 = (0 : Int32))) (K : xm_E X P d co_X11_spreads 102 [some (.ref l0), some (.int l1), some (.int (1 : Int32)), some (.int (l3 + (1 : Int32))), l4, l5] [] h2 ro ho) : xm_E X P d co_X11_spreads 102 [some (.ref l0), some (.int l1), some (.int l2), some (.int l3), l4, l5] [] h ro ho := by
  refine xm_E_s r_X11_spreads_102 rfl rfl ?_
  refine xm_E_s r_X11_spreads_103 rfl rfl ?_
  refine xm_E_s r_X11_spreads_104 rfl (xm_T_gi rfl q0 rfl (Or.inl rfl)) ?_
  refine xm_E_s r_X11_spreads_105 rfl rfl ?_
  refine xm_E_f q1 ?_
  refine xm_E_s r_X11_spreads_106 rfl rfl ?_
  refine xm_E_s r_X11_spreads_107 rfl rfl ?_
  refine xm_E_s r_X11_spreads_108 rfl (xm_T_gr rfl q0 rfl rfl q2) ?_
  refine xm_E_s r_X11_spreads_109 rfl rfl ?_
  refine xm_E_s r_X11_spreads_110 rfl (xm_T_iald rfl q3 (by decide) q4) ?_
  refine xm_E_cv [.ref l0, .int (h.1 v0 l3.toNatClampNeg)] [] r_X11_spreads_111 rfl rfl (Nat.le_of_ble_eq_true rfl) (xm_rc q0 (by decide)) rfl q5 ?_
  refine xm_E_s r_X11_spreads_112 rfl rfl ?_
  refine xm_E_f q6 ?_
  refine xm_E_s r_X11_spreads_115 rfl rfl ?_
  refine xm_E_s r_X11_spreads_116 rfl rfl ?_
  refine xm_E_s (ls1 := [some (.ref l0), some (.int l1), some (.int (1 : Int32)), some (.int l3), l4, l5]) r_X11_spreads_118 rfl rfl ?_
  refine xm_E_s (ls1 := [some (.ref l0), some (.int l1), some (.int (1 : Int32)), some (.int (l3 + (1 : Int32))), l4, l5]) r_X11_spreads_119 rfl rfl ?_
  refine xm_E_s r_X11_spreads_120 rfl rfl ?_
  exact K
theorem r_X11_choices_0 : co_X11_choices[0]? = some ((0, .aload_n 0, 0, 0, 0, 0, 0, 0, []) : xm_I) := rfl
theorem r_X11_choices_1 : co_X11_choices[1]? = some ((1, .getfield 380, 1404, 10, 24, 0, 0, 0, []) : xm_I) := rfl
theorem r_X11_choices_2 : co_X11_choices[2]? = some ((4, .iconst (-1), 0, 0, 0, 0, (-1), 0, []) : xm_I) := rfl
theorem r_X11_choices_3 : co_X11_choices[3]? = some ((5, .if_icmp .ne 8, 0, 0, 6, 0, 0, 0, []) : xm_I) := rfl
theorem r_X11_choices_4 : co_X11_choices[4]? = some ((8, .bipush 10, 0, 0, 0, 0, 10, 0, []) : xm_I) := rfl
theorem r_X11_choices_5 : co_X11_choices[5]? = some ((10, .goto 5, 0, 0, 7, 0, 0, 0, []) : xm_I) := rfl
theorem r_X11_choices_6 : co_X11_choices[6]? = some ((13, .bipush 7, 0, 0, 0, 0, 7, 0, []) : xm_I) := rfl
theorem r_X11_choices_7 : co_X11_choices[7]? = some ((15, .ireturn, 0, 0, 0, 0, 0, 0, []) : xm_I) := rfl
theorem p_X11_choices_0_0 {X : xm_X} {P : List xm_M} {d : Nat} {h : xm_H} {l0 : Nat} (q0 : X.1[l0]? = some (.inr 10)) (q1 : h.1 l0 24 = (-1 : Int32)) : xm_E X P d co_X11_choices 0 [some (.ref l0)] [] h (some (.int (10 : Int32))) h := by
  refine xm_E_s r_X11_choices_0 rfl rfl ?_
  refine xm_E_s r_X11_choices_1 rfl (xm_T_gi rfl q0 rfl (Or.inl rfl)) ?_
  refine xm_E_s r_X11_choices_2 rfl rfl ?_
  refine xm_E_s r_X11_choices_3 rfl rfl ?_
  refine xm_E_t q1 ?_
  refine xm_E_s r_X11_choices_4 rfl rfl ?_
  refine xm_E_s r_X11_choices_5 rfl rfl ?_
  exact xm_E_iret r_X11_choices_7 rfl rfl
theorem p_X11_choices_0_1 {X : xm_X} {P : List xm_M} {d : Nat} {h : xm_H} {l0 : Nat} (q0 : X.1[l0]? = some (.inr 10)) (q1 : ¬ (h.1 l0 24 = (-1 : Int32))) : xm_E X P d co_X11_choices 0 [some (.ref l0)] [] h (some (.int (7 : Int32))) h := by
  refine xm_E_s r_X11_choices_0 rfl rfl ?_
  refine xm_E_s r_X11_choices_1 rfl (xm_T_gi rfl q0 rfl (Or.inl rfl)) ?_
  refine xm_E_s r_X11_choices_2 rfl rfl ?_
  refine xm_E_s r_X11_choices_3 rfl rfl ?_
  refine xm_E_f q1 ?_
  refine xm_E_s r_X11_choices_6 rfl rfl ?_
  exact xm_E_iret r_X11_choices_7 rfl rfl
theorem r_X11_chosen_0 : co_X11_chosen[0]? = some ((0, .aload_n 0, 0, 0, 0, 0, 0, 0, []) : xm_I) := rfl
theorem r_X11_chosen_1 : co_X11_chosen[1]? = some ((1, .getfield 380, 1404, 10, 24, 0, 0, 0, []) : xm_I) := rfl
theorem r_X11_chosen_2 : co_X11_chosen[2]? = some ((4, .iconst (-1), 0, 0, 0, 0, (-1), 0, []) : xm_I) := rfl
theorem r_X11_chosen_3 : co_X11_chosen[3]? = some ((5, .if_icmp .ne 10, 0, 0, 9, 0, 0, 0, []) : xm_I) := rfl
theorem r_X11_chosen_4 : co_X11_chosen[4]? = some ((8, .aload_n 0, 0, 0, 0, 0, 0, 0, []) : xm_I) := rfl
theorem r_X11_chosen_5 : co_X11_chosen[5]? = some ((9, .iload_n 1, 0, 0, 0, 0, 0, 0, []) : xm_I) := rfl
theorem r_X11_chosen_6 : co_X11_chosen[6]? = some ((10, .iload_n 2, 0, 0, 0, 0, 0, 0, []) : xm_I) := rfl
theorem r_X11_chosen_7 : co_X11_chosen[7]? = some ((11, .invokevirtual 297, 1670, 223, 3, 10, 0, 0, []) : xm_I) := rfl
theorem r_X11_chosen_8 : co_X11_chosen[8]? = some ((14, .ireturn, 0, 0, 0, 0, 0, 0, []) : xm_I) := rfl
theorem r_X11_chosen_9 : co_X11_chosen[9]? = some ((15, .iload_n 2, 0, 0, 0, 0, 0, 0, []) : xm_I) := rfl
theorem r_X11_chosen_10 : co_X11_chosen[10]? = some ((16, .bipush 6, 0, 0, 0, 0, 6, 0, []) : xm_I) := rfl
theorem r_X11_chosen_11 : co_X11_chosen[11]? = some ((18, .if_icmp .ne 11, 0, 0, 17, 0, 0, 0, []) : xm_I) := rfl
theorem r_X11_chosen_12 : co_X11_chosen[12]? = some ((21, .aload_n 0, 0, 0, 0, 0, 0, 0, []) : xm_I) := rfl
theorem r_X11_chosen_13 : co_X11_chosen[13]? = some ((22, .iload_n 1, 0, 0, 0, 0, 0, 0, []) : xm_I) := rfl
theorem r_X11_chosen_14 : co_X11_chosen[14]? = some ((23, .bipush 9, 0, 0, 0, 0, 9, 0, []) : xm_I) := rfl
theorem r_X11_chosen_15 : co_X11_chosen[15]? = some ((25, .invokevirtual 297, 1670, 223, 3, 10, 0, 0, []) : xm_I) := rfl
theorem r_X11_chosen_16 : co_X11_chosen[16]? = some ((28, .ireturn, 0, 0, 0, 0, 0, 0, []) : xm_I) := rfl
theorem r_X11_chosen_17 : co_X11_chosen[17]? = some ((29, .aload_n 0, 0, 0, 0, 0, 0, 0, []) : xm_I) := rfl
theorem r_X11_chosen_18 : co_X11_chosen[18]? = some ((30, .getfield 380, 1404, 10, 24, 0, 0, 0, []) : xm_I) := rfl
theorem r_X11_chosen_19 : co_X11_chosen[19]? = some ((33, .iload_n 2, 0, 0, 0, 0, 0, 0, []) : xm_I) := rfl
theorem r_X11_chosen_20 : co_X11_chosen[20]? = some ((34, .ishr, 0, 0, 0, 0, 0, 0, []) : xm_I) := rfl
theorem r_X11_chosen_21 : co_X11_chosen[21]? = some ((35, .iconst 1, 0, 0, 0, 0, 1, 0, []) : xm_I) := rfl
theorem r_X11_chosen_22 : co_X11_chosen[22]? = some ((36, .iand, 0, 0, 0, 0, 0, 0, []) : xm_I) := rfl
theorem r_X11_chosen_23 : co_X11_chosen[23]? = some ((37, .ifCond .ne 7, 0, 0, 26, 0, 0, 0, []) : xm_I) := rfl
theorem r_X11_chosen_24 : co_X11_chosen[24]? = some ((40, .iconst (-1), 0, 0, 0, 0, (-1), 0, []) : xm_I) := rfl
theorem r_X11_chosen_25 : co_X11_chosen[25]? = some ((41, .goto 21, 0, 0, 36, 0, 0, 0, []) : xm_I) := rfl
theorem r_X11_chosen_26 : co_X11_chosen[26]? = some ((44, .aload_n 0, 0, 0, 0, 0, 0, 0, []) : xm_I) := rfl
theorem r_X11_chosen_27 : co_X11_chosen[27]? = some ((45, .iload_n 1, 0, 0, 0, 0, 0, 0, []) : xm_I) := rfl
theorem r_X11_chosen_28 : co_X11_chosen[28]? = some ((46, .aload_n 0, 0, 0, 0, 0, 0, 0, []) : xm_I) := rfl
theorem r_X11_chosen_29 : co_X11_chosen[29]? = some ((47, .iload_n 2, 0, 0, 0, 0, 0, 0, []) : xm_I) := rfl
theorem r_X11_chosen_30 : co_X11_chosen[30]? = some ((48, .invokevirtual 350, 1751, 245, 2, 10, 0, 0, []) : xm_I) := rfl
theorem r_X11_chosen_31 : co_X11_chosen[31]? = some ((51, .aload_n 0, 0, 0, 0, 0, 0, 0, []) : xm_I) := rfl
theorem r_X11_chosen_32 : co_X11_chosen[32]? = some ((52, .iload_n 2, 0, 0, 0, 0, 0, 0, []) : xm_I) := rfl
theorem r_X11_chosen_33 : co_X11_chosen[33]? = some ((53, .invokevirtual 352, 1755, 246, 2, 10, 0, 0, []) : xm_I) := rfl
theorem r_X11_chosen_34 : co_X11_chosen[34]? = some ((56, .invokestatic 354, 1759, 247, 2, 0, 0, 0, []) : xm_I) := rfl
theorem r_X11_chosen_35 : co_X11_chosen[35]? = some ((59, .invokevirtual 311, 1666, 222, 3, 10, 0, 0, []) : xm_I) := rfl
theorem r_X11_chosen_36 : co_X11_chosen[36]? = some ((62, .ireturn, 0, 0, 0, 0, 0, 0, []) : xm_I) := rfl
theorem p_X11_chosen_0_0 {X : xm_X} {P : List xm_M} {d : Nat} {h : xm_H} {l0 : Nat} {l1 : Int32} {l2 : Int32} {h0 : xm_H} {r0 : Int32} (q0 : X.1[l0]? = some (.inr 10)) (q1 : h.1 l0 24 = (-1 : Int32)) (q2 : xm_V X P d 223 [.ref l0, .int l1, .int l2] h (some (.int r0)) h0) : xm_E X P d co_X11_chosen 0 [some (.ref l0), some (.int l1), some (.int l2)] [] h (some (.int r0)) h0 := by
  refine xm_E_s r_X11_chosen_0 rfl rfl ?_
  refine xm_E_s r_X11_chosen_1 rfl (xm_T_gi rfl q0 rfl (Or.inl rfl)) ?_
  refine xm_E_s r_X11_chosen_2 rfl rfl ?_
  refine xm_E_s r_X11_chosen_3 rfl rfl ?_
  refine xm_E_t q1 ?_
  refine xm_E_s r_X11_chosen_4 rfl rfl ?_
  refine xm_E_s r_X11_chosen_5 rfl rfl ?_
  refine xm_E_s r_X11_chosen_6 rfl rfl ?_
  refine xm_E_cv [.ref l0, .int l1, .int l2] [] r_X11_chosen_7 rfl rfl (Nat.le_of_ble_eq_true rfl) (xm_rc q0 (by decide)) rfl q2 ?_
  exact xm_E_iret r_X11_chosen_8 rfl rfl
theorem p_X11_chosen_0_1 {X : xm_X} {P : List xm_M} {d : Nat} {h : xm_H} {l0 : Nat} {l1 : Int32} {l2 : Int32} {h0 : xm_H} {r0 : Int32} (q0 : X.1[l0]? = some (.inr 10)) (q1 : ¬ (h.1 l0 24 = (-1 : Int32))) (q2 : l2 = (6 : Int32)) (q3 : xm_V X P d 223 [.ref l0, .int l1, .int (9 : Int32)] h (some (.int r0)) h0) : xm_E X P d co_X11_chosen 0 [some (.ref l0), some (.int l1), some (.int l2)] [] h (some (.int r0)) h0 := by
  refine xm_E_s r_X11_chosen_0 rfl rfl ?_
  refine xm_E_s r_X11_chosen_1 rfl (xm_T_gi rfl q0 rfl (Or.inl rfl)) ?_
  refine xm_E_s r_X11_chosen_2 rfl rfl ?_
  refine xm_E_s r_X11_chosen_3 rfl rfl ?_
  refine xm_E_f q1 ?_
  refine xm_E_s r_X11_chosen_9 rfl rfl ?_
  refine xm_E_s r_X11_chosen_10 rfl rfl ?_
  refine xm_E_s r_X11_chosen_11 rfl rfl ?_
  refine xm_E_t q2 ?_
  refine xm_E_s r_X11_chosen_12 rfl rfl ?_
  refine xm_E_s r_X11_chosen_13 rfl rfl ?_
  refine xm_E_s r_X11_chosen_14 rfl rfl ?_
  refine xm_E_cv [.ref l0, .int l1, .int (9 : Int32)] [] r_X11_chosen_15 rfl rfl (Nat.le_of_ble_eq_true rfl) (xm_rc q0 (by decide)) rfl q3 ?_
  exact xm_E_iret r_X11_chosen_16 rfl rfl
theorem p_X11_chosen_0_2 {X : xm_X} {P : List xm_M} {d : Nat} {h : xm_H} {l0 : Nat} {l1 : Int32} {l2 : Int32} (q0 : X.1[l0]? = some (.inr 10)) (q1 : ¬ (h.1 l0 24 = (-1 : Int32))) (q2 : ¬ (l2 = (6 : Int32))) (q3 : ((h.1 l0 24) >>> (l2 &&& 31)) &&& (1 : Int32) = (0 : Int32)) : xm_E X P d co_X11_chosen 0 [some (.ref l0), some (.int l1), some (.int l2)] [] h (some (.int (-1 : Int32))) h := by
  refine xm_E_s r_X11_chosen_0 rfl rfl ?_
  refine xm_E_s r_X11_chosen_1 rfl (xm_T_gi rfl q0 rfl (Or.inl rfl)) ?_
  refine xm_E_s r_X11_chosen_2 rfl rfl ?_
  refine xm_E_s r_X11_chosen_3 rfl rfl ?_
  refine xm_E_f q1 ?_
  refine xm_E_s r_X11_chosen_9 rfl rfl ?_
  refine xm_E_s r_X11_chosen_10 rfl rfl ?_
  refine xm_E_s r_X11_chosen_11 rfl rfl ?_
  refine xm_E_f q2 ?_
  refine xm_E_s r_X11_chosen_17 rfl rfl ?_
  refine xm_E_s r_X11_chosen_18 rfl (xm_T_gi rfl q0 rfl (Or.inl rfl)) ?_
  refine xm_E_s r_X11_chosen_19 rfl rfl ?_
  refine xm_E_s r_X11_chosen_20 rfl rfl ?_
  refine xm_E_s r_X11_chosen_21 rfl rfl ?_
  refine xm_E_s r_X11_chosen_22 rfl rfl ?_
  refine xm_E_s r_X11_chosen_23 rfl rfl ?_
  refine xm_E_t q3 ?_
  refine xm_E_s r_X11_chosen_24 rfl rfl ?_
  refine xm_E_s r_X11_chosen_25 rfl rfl ?_
  exact xm_E_iret r_X11_chosen_36 rfl rfl
theorem p_X11_chosen_0_3 {X : xm_X} {P : List xm_M} {d : Nat} {h : xm_H} {l0 : Nat} {l1 : Int32} {l2 : Int32} {h0 : xm_H} {r0 : Int32} {h1 : xm_H} {r1 : Int32} {h2 : xm_H} {r2 : Int32} {h3 : xm_H} {r3 : Int32} (q0 : X.1[l0]? = some (.inr 10)) (q1 : ¬ (h.1 l0 24 = (-1 : Int32))) (q2 : ¬ (l2 = (6 : Int32))) (q3 : ¬ (((h.1 l0 24) >>> (l2 &&& 31)) &&& (1 : Int32) = (0 : Int32))) (q4 : xm_V X P d 245 [.ref l0, .int l2] h (some (.int r0)) h0) (q5 : xm_V X P d 246 [.ref l0, .int l2] h0 (some (.int r1)) h1) (q6 : xm_V X P d 247 [.int r0, .int r1] h1 (some (.int r2)) h2) (q7 : xm_V X P d 222 [.ref l0, .int l1, .int r2] h2 (some (.int r3)) h3) : xm_E X P d co_X11_chosen 0 [some (.ref l0), some (.int l1), some (.int l2)] [] h (some (.int r3)) h3 := by
  refine xm_E_s r_X11_chosen_0 rfl rfl ?_
  refine xm_E_s r_X11_chosen_1 rfl (xm_T_gi rfl q0 rfl (Or.inl rfl)) ?_
  refine xm_E_s r_X11_chosen_2 rfl rfl ?_
  refine xm_E_s r_X11_chosen_3 rfl rfl ?_
  refine xm_E_f q1 ?_
  refine xm_E_s r_X11_chosen_9 rfl rfl ?_
  refine xm_E_s r_X11_chosen_10 rfl rfl ?_
  refine xm_E_s r_X11_chosen_11 rfl rfl ?_
  refine xm_E_f q2 ?_
  refine xm_E_s r_X11_chosen_17 rfl rfl ?_
  refine xm_E_s r_X11_chosen_18 rfl (xm_T_gi rfl q0 rfl (Or.inl rfl)) ?_
  refine xm_E_s r_X11_chosen_19 rfl rfl ?_
  refine xm_E_s r_X11_chosen_20 rfl rfl ?_
  refine xm_E_s r_X11_chosen_21 rfl rfl ?_
  refine xm_E_s r_X11_chosen_22 rfl rfl ?_
  refine xm_E_s r_X11_chosen_23 rfl rfl ?_
  refine xm_E_f q3 ?_
  refine xm_E_s r_X11_chosen_26 rfl rfl ?_
  refine xm_E_s r_X11_chosen_27 rfl rfl ?_
  refine xm_E_s r_X11_chosen_28 rfl rfl ?_
  refine xm_E_s r_X11_chosen_29 rfl rfl ?_
  refine xm_E_cv [.ref l0, .int l2] [.int l1, .ref l0] r_X11_chosen_30 rfl rfl (Nat.le_of_ble_eq_true rfl) (xm_rc q0 (by decide)) rfl q4 ?_
  refine xm_E_s r_X11_chosen_31 rfl rfl ?_
  refine xm_E_s r_X11_chosen_32 rfl rfl ?_
  refine xm_E_cv [.ref l0, .int l2] [.int r0, .int l1, .ref l0] r_X11_chosen_33 rfl rfl (Nat.le_of_ble_eq_true rfl) (xm_rc q0 (by decide)) rfl q5 ?_
  refine xm_E_cs [.int r0, .int r1] [.int l1, .ref l0] r_X11_chosen_34 rfl rfl rfl (Nat.le_of_ble_eq_true rfl) rfl q6 ?_
  refine xm_E_cv [.ref l0, .int l1, .int r2] [] r_X11_chosen_35 rfl rfl (Nat.le_of_ble_eq_true rfl) (xm_rc q0 (by decide)) rfl q7 ?_
  exact xm_E_iret r_X11_chosen_36 rfl rfl
theorem r_X11_goesFrom_0 : co_X11_goesFrom[0]? = some ((0, .iconst 0, 0, 0, 0, 0, 0, 0, []) : xm_I) := rfl
theorem r_X11_goesFrom_1 : co_X11_goesFrom[1]? = some ((1, .istore_n 2, 0, 0, 0, 0, 0, 0, []) : xm_I) := rfl
theorem r_X11_goesFrom_2 : co_X11_goesFrom[2]? = some ((2, .iconst 0, 0, 0, 0, 0, 0, 0, []) : xm_I) := rfl
theorem r_X11_goesFrom_3 : co_X11_goesFrom[3]? = some ((3, .istore_n 3, 0, 0, 0, 0, 0, 0, []) : xm_I) := rfl
theorem r_X11_goesFrom_4 : co_X11_goesFrom[4]? = some ((4, .iload_n 3, 0, 0, 0, 0, 0, 0, []) : xm_I) := rfl
theorem r_X11_goesFrom_5 : co_X11_goesFrom[5]? = some ((5, .aload_n 0, 0, 0, 0, 0, 0, 0, []) : xm_I) := rfl
theorem r_X11_goesFrom_6 : co_X11_goesFrom[6]? = some ((6, .invokevirtual 390, 1819, 262, 1, 10, 0, 0, []) : xm_I) := rfl
theorem r_X11_goesFrom_7 : co_X11_goesFrom[7]? = some ((9, .if_icmp .ge 81, 0, 0, 52, 0, 0, 0, []) : xm_I) := rfl
theorem r_X11_goesFrom_8 : co_X11_goesFrom[8]? = some ((12, .aload_n 0, 0, 0, 0, 0, 0, 0, []) : xm_I) := rfl
theorem r_X11_goesFrom_9 : co_X11_goesFrom[9]? = some ((13, .getfield 35, 1400, 10, 20, 2, 0, 0, []) : xm_I) := rfl
theorem r_X11_goesFrom_10 : co_X11_goesFrom[10]? = some ((16, .iload_n 1, 0, 0, 0, 0, 0, 0, []) : xm_I) := rfl
theorem r_X11_goesFrom_11 : co_X11_goesFrom[11]? = some ((17, .iaload, 0, 0, 0, 0, 0, 0, []) : xm_I) := rfl
theorem r_X11_goesFrom_12 : co_X11_goesFrom[12]? = some ((18, .ldc_w 386, 1818, 0, 0, 0, 1000000000, 0, []) : xm_I) := rfl
theorem r_X11_goesFrom_13 : co_X11_goesFrom[13]? = some ((21, .if_icmp .ge 69, 0, 0, 52, 0, 0, 0, []) : xm_I) := rfl
theorem r_X11_goesFrom_14 : co_X11_goesFrom[14]? = some ((24, .aload_n 0, 0, 0, 0, 0, 0, 0, []) : xm_I) := rfl
theorem r_X11_goesFrom_15 : co_X11_goesFrom[15]? = some ((25, .iload_n 1, 0, 0, 0, 0, 0, 0, []) : xm_I) := rfl
theorem r_X11_goesFrom_16 : co_X11_goesFrom[16]? = some ((26, .iload_n 3, 0, 0, 0, 0, 0, 0, []) : xm_I) := rfl
theorem r_X11_goesFrom_17 : co_X11_goesFrom[17]? = some ((27, .invokevirtual 393, 1823, 263, 3, 10, 0, 0, []) : xm_I) := rfl
theorem r_X11_goesFrom_18 : co_X11_goesFrom[18]? = some ((30, .istore 4, 0, 0, 0, 0, 0, 0, []) : xm_I) := rfl
theorem r_X11_goesFrom_19 : co_X11_goesFrom[19]? = some ((32, .iload 4, 0, 0, 0, 0, 0, 0, []) : xm_I) := rfl
theorem r_X11_goesFrom_20 : co_X11_goesFrom[20]? = some ((34, .iconst (-1), 0, 0, 0, 0, (-1), 0, []) : xm_I) := rfl
theorem r_X11_goesFrom_21 : co_X11_goesFrom[21]? = some ((35, .if_icmp .eq 49, 0, 0, 50, 0, 0, 0, []) : xm_I) := rfl
theorem r_X11_goesFrom_22 : co_X11_goesFrom[22]? = some ((38, .aload_n 0, 0, 0, 0, 0, 0, 0, []) : xm_I) := rfl
theorem r_X11_goesFrom_23 : co_X11_goesFrom[23]? = some ((39, .getfield 35, 1400, 10, 20, 2, 0, 0, []) : xm_I) := rfl
theorem r_X11_goesFrom_24 : co_X11_goesFrom[24]? = some ((42, .iload 4, 0, 0, 0, 0, 0, 0, []) : xm_I) := rfl
theorem r_X11_goesFrom_25 : co_X11_goesFrom[25]? = some ((44, .iaload, 0, 0, 0, 0, 0, 0, []) : xm_I) := rfl
theorem r_X11_goesFrom_26 : co_X11_goesFrom[26]? = some ((45, .aload_n 0, 0, 0, 0, 0, 0, 0, []) : xm_I) := rfl
theorem r_X11_goesFrom_27 : co_X11_goesFrom[27]? = some ((46, .getfield 35, 1400, 10, 20, 2, 0, 0, []) : xm_I) := rfl
theorem r_X11_goesFrom_28 : co_X11_goesFrom[28]? = some ((49, .iload_n 1, 0, 0, 0, 0, 0, 0, []) : xm_I) := rfl
theorem r_X11_goesFrom_29 : co_X11_goesFrom[29]? = some ((50, .iaload, 0, 0, 0, 0, 0, 0, []) : xm_I) := rfl
theorem r_X11_goesFrom_30 : co_X11_goesFrom[30]? = some ((51, .aload_n 0, 0, 0, 0, 0, 0, 0, []) : xm_I) := rfl
theorem r_X11_goesFrom_31 : co_X11_goesFrom[31]? = some ((52, .iload_n 3, 0, 0, 0, 0, 0, 0, []) : xm_I) := rfl
theorem r_X11_goesFrom_32 : co_X11_goesFrom[32]? = some ((53, .invokevirtual 399, 1831, 265, 2, 10, 0, 0, []) : xm_I) := rfl
theorem r_X11_goesFrom_33 : co_X11_goesFrom[33]? = some ((56, .iadd, 0, 0, 0, 0, 0, 0, []) : xm_I) := rfl
theorem r_X11_goesFrom_34 : co_X11_goesFrom[34]? = some ((57, .if_icmp .gt 6, 0, 0, 36, 0, 0, 0, []) : xm_I) := rfl
theorem r_X11_goesFrom_35 : co_X11_goesFrom[35]? = some ((60, .goto 24, 0, 0, 50, 0, 0, 0, []) : xm_I) := rfl
theorem r_X11_goesFrom_36 : co_X11_goesFrom[36]? = some ((63, .aload_n 0, 0, 0, 0, 0, 0, 0, []) : xm_I) := rfl
theorem r_X11_goesFrom_37 : co_X11_goesFrom[37]? = some ((64, .getfield 35, 1400, 10, 20, 2, 0, 0, []) : xm_I) := rfl
theorem r_X11_goesFrom_38 : co_X11_goesFrom[38]? = some ((67, .iload 4, 0, 0, 0, 0, 0, 0, []) : xm_I) := rfl
theorem r_X11_goesFrom_39 : co_X11_goesFrom[39]? = some ((69, .aload_n 0, 0, 0, 0, 0, 0, 0, []) : xm_I) := rfl
theorem r_X11_goesFrom_40 : co_X11_goesFrom[40]? = some ((70, .getfield 35, 1400, 10, 20, 2, 0, 0, []) : xm_I) := rfl
theorem r_X11_goesFrom_41 : co_X11_goesFrom[41]? = some ((73, .iload_n 1, 0, 0, 0, 0, 0, 0, []) : xm_I) := rfl
theorem r_X11_goesFrom_42 : co_X11_goesFrom[42]? = some ((74, .iaload, 0, 0, 0, 0, 0, 0, []) : xm_I) := rfl
theorem r_X11_goesFrom_43 : co_X11_goesFrom[43]? = some ((75, .aload_n 0, 0, 0, 0, 0, 0, 0, []) : xm_I) := rfl
theorem r_X11_goesFrom_44 : co_X11_goesFrom[44]? = some ((76, .iload_n 3, 0, 0, 0, 0, 0, 0, []) : xm_I) := rfl
theorem r_X11_goesFrom_45 : co_X11_goesFrom[45]? = some ((77, .invokevirtual 399, 1831, 265, 2, 10, 0, 0, []) : xm_I) := rfl
theorem r_X11_goesFrom_46 : co_X11_goesFrom[46]? = some ((80, .iadd, 0, 0, 0, 0, 0, 0, []) : xm_I) := rfl
theorem r_X11_goesFrom_47 : co_X11_goesFrom[47]? = some ((81, .iastore, 0, 0, 0, 0, 0, 0, []) : xm_I) := rfl
theorem r_X11_goesFrom_48 : co_X11_goesFrom[48]? = some ((82, .iconst 1, 0, 0, 0, 0, 1, 0, []) : xm_I) := rfl
theorem r_X11_goesFrom_49 : co_X11_goesFrom[49]? = some ((83, .istore_n 2, 0, 0, 0, 0, 0, 0, []) : xm_I) := rfl
theorem r_X11_goesFrom_50 : co_X11_goesFrom[50]? = some ((84, .iinc 3 1, 0, 0, 0, 0, 1, 0, []) : xm_I) := rfl
theorem r_X11_goesFrom_51 : co_X11_goesFrom[51]? = some ((87, .goto (-83), 0, 0, 4, 0, 0, 0, []) : xm_I) := rfl
theorem r_X11_goesFrom_52 : co_X11_goesFrom[52]? = some ((90, .iload_n 2, 0, 0, 0, 0, 0, 0, []) : xm_I) := rfl
theorem r_X11_goesFrom_53 : co_X11_goesFrom[53]? = some ((91, .ireturn, 0, 0, 0, 3, 0, 0, []) : xm_I) := rfl
theorem p_X11_goesFrom_0_0 {X : xm_X} {P : List xm_M} {d : Nat} {h : xm_H} {l0 : Nat} {l1 : Int32} {ro : Option Value} {ho : xm_H}  (K : xm_E X P d co_X11_goesFrom 4 [some (.ref l0), some (.int l1), some (.int (0 : Int32)), some (.int (0 : Int32)), none] [] h ro ho) : xm_E X P d co_X11_goesFrom 0 [some (.ref l0), some (.int l1), none, none, none] [] h ro ho := by
  refine xm_E_s r_X11_goesFrom_0 rfl rfl ?_
  refine xm_E_s (ls1 := [some (.ref l0), some (.int l1), some (.int (0 : Int32)), none, none]) r_X11_goesFrom_1 rfl rfl ?_
  refine xm_E_s r_X11_goesFrom_2 rfl rfl ?_
  refine xm_E_s (ls1 := [some (.ref l0), some (.int l1), some (.int (0 : Int32)), some (.int (0 : Int32)), none]) r_X11_goesFrom_3 rfl rfl ?_
  exact K
theorem p_X11_goesFrom_4_0 {X : xm_X} {P : List xm_M} {d : Nat} {h : xm_H} {l0 : Nat} {l1 : Int32} {l2 : Int32} {l3 : Int32} {l4 : Option Value} {h0 : xm_H} {r0 : Int32} (q0 : xm_V X P d 262 [.ref l0] h (some (.int r0)) h0) (q1 : X.1[l0]? = some (.inr 10)) (q2 : r0 ≤ l3) (q3 : xm_okr 3 l2 = true) : xm_E X P d co_X11_goesFrom 4 [some (.ref l0), some (.int l1), some (.int l2), some (.int l3), l4] [] h (some (.int l2)) h0 := by
  refine xm_E_s r_X11_goesFrom_4 rfl rfl ?_
  refine xm_E_s r_X11_goesFrom_5 rfl rfl ?_
  refine xm_E_cv [.ref l0] [.int l3] r_X11_goesFrom_6 rfl rfl (Nat.le_of_ble_eq_true rfl) (xm_rc q1 (by decide)) rfl q0 ?_
  refine xm_E_s r_X11_goesFrom_7 rfl rfl ?_
  refine xm_E_t q2 ?_
  refine xm_E_s r_X11_goesFrom_52 rfl rfl ?_
  exact xm_E_iret r_X11_goesFrom_53 rfl q3
theorem p_X11_goesFrom_4_1 {X : xm_X} {P : List xm_M} {d : Nat} {h : xm_H} {l0 : Nat} {l1 : Int32} {l2 : Int32} {l3 : Int32} {l4 : Option Value} {h0 : xm_H} {r0 : Int32} {v1 : Nat} {n2 : Nat} (q0 : xm_V X P d 262 [.ref l0] h (some (.int r0)) h0) (q1 : X.1[l0]? = some (.inr 10)) (q2 : ¬ (r0 ≤ l3)) (q3 : h0.2.2 l0 20 = some v1) (q4 : X.1[v1]? = some (.inl (0, n2))) (q5 : ¬ (l1 < 0 ∨ n2 ≤ l1.toNatClampNeg)) (q6 : (1000000000 : Int32) ≤ h0.1 v1 l1.toNatClampNeg) (q7 : xm_okr 3 l2 = true) : xm_E X P d co_X11_goesFrom 4 [some (.ref l0), some (.int l1), some (.int l2), some (.int l3), l4] [] h (some (.int l2)) h0 := by
  refine xm_E_s r_X11_goesFrom_4 rfl rfl ?_
  refine xm_E_s r_X11_goesFrom_5 rfl rfl ?_
  refine xm_E_cv [.ref l0] [.int l3] r_X11_goesFrom_6 rfl rfl (Nat.le_of_ble_eq_true rfl) (xm_rc q1 (by decide)) rfl q0 ?_
  refine xm_E_s r_X11_goesFrom_7 rfl rfl ?_
  refine xm_E_f q2 ?_
  refine xm_E_s r_X11_goesFrom_8 rfl rfl ?_
  refine xm_E_s r_X11_goesFrom_9 rfl (xm_T_gr rfl q1 rfl rfl q3) ?_
  refine xm_E_s r_X11_goesFrom_10 rfl rfl ?_
  refine xm_E_s r_X11_goesFrom_11 rfl (xm_T_iald rfl q4 (by decide) q5) ?_
  refine xm_E_s r_X11_goesFrom_12 rfl rfl ?_
  refine xm_E_s r_X11_goesFrom_13 rfl rfl ?_
  refine xm_E_t q6 ?_
  refine xm_E_s r_X11_goesFrom_52 rfl rfl ?_
  exact xm_E_iret r_X11_goesFrom_53 rfl q7
theorem p_X11_goesFrom_4_2 {X : xm_X} {P : List xm_M} {d : Nat} {h : xm_H} {l0 : Nat} {l1 : Int32} {l2 : Int32} {l3 : Int32} {l4 : Option Value} {h0 : xm_H} {r0 : Int32} {v1 : Nat} {n2 : Nat} {h3 : xm_H} {r3 : Int32} {ro : Option Value} {ho : xm_H} (q0 : xm_V X P d 262 [.ref l0] h (some (.int r0)) h0) (q1 : X.1[l0]? = some (.inr 10)) (q2 : ¬ (r0 ≤ l3)) (q3 : h0.2.2 l0 20 = some v1) (q4 : X.1[v1]? = some (.inl (0, n2))) (q5 : ¬ (l1 < 0 ∨ n2 ≤ l1.toNatClampNeg)) (q6 : ¬ ((1000000000 : Int32) ≤ h0.1 v1 l1.toNatClampNeg)) (q7 : xm_V X P d 263 [.ref l0, .int l1, .int l3] h0 (some (.int r3)) h3) (q8 : r3 = (-1 : Int32)) (K : xm_E X P d co_X11_goesFrom 4 [some (.ref l0), some (.int l1), some (.int l2), some (.int (l3 + (1 : Int32))), some (.int r3)] [] h3 ro ho) : xm_E X P d co_X11_goesFrom 4 [some (.ref l0), some (.int l1), some (.int l2), some (.int l3), l4] [] h ro ho := by
  refine xm_E_s r_X11_goesFrom_4 rfl rfl ?_
  refine xm_E_s r_X11_goesFrom_5 rfl rfl ?_
  refine xm_E_cv [.ref l0] [.int l3] r_X11_goesFrom_6 rfl rfl (Nat.le_of_ble_eq_true rfl) (xm_rc q1 (by decide)) rfl q0 ?_
  refine xm_E_s r_X11_goesFrom_7 rfl rfl ?_
  refine xm_E_f q2 ?_
  refine xm_E_s r_X11_goesFrom_8 rfl rfl ?_
  refine xm_E_s r_X11_goesFrom_9 rfl (xm_T_gr rfl q1 rfl rfl q3) ?_
  refine xm_E_s r_X11_goesFrom_10 rfl rfl ?_
  refine xm_E_s r_X11_goesFrom_11 rfl (xm_T_iald rfl q4 (by decide) q5) ?_
  refine xm_E_s r_X11_goesFrom_12 rfl rfl ?_
  refine xm_E_s r_X11_goesFrom_13 rfl rfl ?_
  refine xm_E_f q6 ?_
  refine xm_E_s r_X11_goesFrom_14 rfl rfl ?_
  refine xm_E_s r_X11_goesFrom_15 rfl rfl ?_
  refine xm_E_s r_X11_goesFrom_16 rfl rfl ?_
  refine xm_E_cv [.ref l0, .int l1, .int l3] [] r_X11_goesFrom_17 rfl rfl (Nat.le_of_ble_eq_true rfl) (xm_rc q1 (by decide)) rfl q7 ?_
  refine xm_E_s (ls1 := [some (.ref l0), some (.int l1), some (.int l2), some (.int l3), some (.int r3)]) r_X11_goesFrom_18 rfl rfl ?_
  refine xm_E_s r_X11_goesFrom_19 rfl rfl ?_
  refine xm_E_s r_X11_goesFrom_20 rfl rfl ?_
  refine xm_E_s r_X11_goesFrom_21 rfl rfl ?_
  refine xm_E_t q8 ?_
  refine xm_E_s (ls1 := [some (.ref l0), some (.int l1), some (.int l2), some (.int (l3 + (1 : Int32))), some (.int r3)]) r_X11_goesFrom_50 rfl rfl ?_
  refine xm_E_s r_X11_goesFrom_51 rfl rfl ?_
  exact K
theorem p_X11_goesFrom_4_3 {X : xm_X} {P : List xm_M} {d : Nat} {h : xm_H} {l0 : Nat} {l1 : Int32} {l2 : Int32} {l3 : Int32} {l4 : Option Value} {h0 : xm_H} {r0 : Int32} {v1 : Nat} {n2 : Nat} {h3 : xm_H} {r3 : Int32} {v4 : Nat} {n5 : Nat} {h6 : xm_H} {r6 : Int32} {v7 : Nat} {n8 : Nat} {h9 : xm_H} {r9 : Int32} {ro : Option Value} {ho : xm_H} (q0 : xm_V X P d 262 [.ref l0] h (some (.int r0)) h0) (q1 : X.1[l0]? = some (.inr 10)) (q2 : ¬ (r0 ≤ l3)) (q3 : h0.2.2 l0 20 = some v1) (q4 : X.1[v1]? = some (.inl (0, n2))) (q5 : ¬ (l1 < 0 ∨ n2 ≤ l1.toNatClampNeg)) (q6 : ¬ ((1000000000 : Int32) ≤ h0.1 v1 l1.toNatClampNeg)) (q7 : xm_V X P d 263 [.ref l0, .int l1, .int l3] h0 (some (.int r3)) h3) (q8 : ¬ (r3 = (-1 : Int32))) (q9 : h3.2.2 l0 20 = some v4) (q10 : X.1[v4]? = some (.inl (0, n5))) (q11 : ¬ (r3 < 0 ∨ n5 ≤ r3.toNatClampNeg)) (q12 : ¬ (l1 < 0 ∨ n5 ≤ l1.toNatClampNeg)) (q13 : xm_V X P d 265 [.ref l0, .int l3] h3 (some (.int r6)) h6) (q14 : (h3.1 v4 l1.toNatClampNeg) + r6 < h3.1 v4 r3.toNatClampNeg) (q15 : h6.2.2 l0 20 = some v7) (q16 : X.1[v7]? = some (.inl (0, n8))) (q17 : ¬ (l1 < 0 ∨ n8 ≤ l1.toNatClampNeg)) (q18 : xm_V X P d 265 [.ref l0, .int l3] h6 (some (.int r9)) h9) (q19 : ¬ (r3 < 0 ∨ n8 ≤ r3.toNatClampNeg)) (K : xm_E X P d co_X11_goesFrom 4 [some (.ref l0), some (.int l1), some (.int (1 : Int32)), some (.int (l3 + (1 : Int32))), some (.int r3)] [] (xm_si h9 v7 r3.toNatClampNeg ((h6.1 v7 l1.toNatClampNeg) + r9)) ro ho) : xm_E X P d co_X11_goesFrom 4 [some (.ref l0), some (.int l1), some (.int l2), some (.int l3), l4] [] h ro ho := by
  refine xm_E_s r_X11_goesFrom_4 rfl rfl ?_
  refine xm_E_s r_X11_goesFrom_5 rfl rfl ?_
  refine xm_E_cv [.ref l0] [.int l3] r_X11_goesFrom_6 rfl rfl (Nat.le_of_ble_eq_true rfl) (xm_rc q1 (by decide)) rfl q0 ?_
  refine xm_E_s r_X11_goesFrom_7 rfl rfl ?_
  refine xm_E_f q2 ?_
  refine xm_E_s r_X11_goesFrom_8 rfl rfl ?_
  refine xm_E_s r_X11_goesFrom_9 rfl (xm_T_gr rfl q1 rfl rfl q3) ?_
  refine xm_E_s r_X11_goesFrom_10 rfl rfl ?_
  refine xm_E_s r_X11_goesFrom_11 rfl (xm_T_iald rfl q4 (by decide) q5) ?_
  refine xm_E_s r_X11_goesFrom_12 rfl rfl ?_
  refine xm_E_s r_X11_goesFrom_13 rfl rfl ?_
  refine xm_E_f q6 ?_
  refine xm_E_s r_X11_goesFrom_14 rfl rfl ?_
  refine xm_E_s r_X11_goesFrom_15 rfl rfl ?_
  refine xm_E_s r_X11_goesFrom_16 rfl rfl ?_
  refine xm_E_cv [.ref l0, .int l1, .int l3] [] r_X11_goesFrom_17 rfl rfl (Nat.le_of_ble_eq_true rfl) (xm_rc q1 (by decide)) rfl q7 ?_
  refine xm_E_s (ls1 := [some (.ref l0), some (.int l1), some (.int l2), some (.int l3), some (.int r3)]) r_X11_goesFrom_18 rfl rfl ?_
  refine xm_E_s r_X11_goesFrom_19 rfl rfl ?_
  refine xm_E_s r_X11_goesFrom_20 rfl rfl ?_
  refine xm_E_s r_X11_goesFrom_21 rfl rfl ?_
  refine xm_E_f q8 ?_
  refine xm_E_s r_X11_goesFrom_22 rfl rfl ?_
  refine xm_E_s r_X11_goesFrom_23 rfl (xm_T_gr rfl q1 rfl rfl q9) ?_
  refine xm_E_s r_X11_goesFrom_24 rfl rfl ?_
  refine xm_E_s r_X11_goesFrom_25 rfl (xm_T_iald rfl q10 (by decide) q11) ?_
  refine xm_E_s r_X11_goesFrom_26 rfl rfl ?_
  refine xm_E_s r_X11_goesFrom_27 rfl (xm_T_gr rfl q1 rfl rfl q9) ?_
  refine xm_E_s r_X11_goesFrom_28 rfl rfl ?_
  refine xm_E_s r_X11_goesFrom_29 rfl (xm_T_iald rfl q10 (by decide) q12) ?_
  refine xm_E_s r_X11_goesFrom_30 rfl rfl ?_
  refine xm_E_s r_X11_goesFrom_31 rfl rfl ?_
  refine xm_E_cv [.ref l0, .int l3] [.int (h3.1 v4 l1.toNatClampNeg), .int (h3.1 v4 r3.toNatClampNeg)] r_X11_goesFrom_32 rfl rfl (Nat.le_of_ble_eq_true rfl) (xm_rc q1 (by decide)) rfl q13 ?_
  refine xm_E_s r_X11_goesFrom_33 rfl rfl ?_
  refine xm_E_s r_X11_goesFrom_34 rfl rfl ?_
  refine xm_E_t q14 ?_
  refine xm_E_s r_X11_goesFrom_36 rfl rfl ?_
  refine xm_E_s r_X11_goesFrom_37 rfl (xm_T_gr rfl q1 rfl rfl q15) ?_
  refine xm_E_s r_X11_goesFrom_38 rfl rfl ?_
  refine xm_E_s r_X11_goesFrom_39 rfl rfl ?_
  refine xm_E_s r_X11_goesFrom_40 rfl (xm_T_gr rfl q1 rfl rfl q15) ?_
  refine xm_E_s r_X11_goesFrom_41 rfl rfl ?_
  refine xm_E_s r_X11_goesFrom_42 rfl (xm_T_iald rfl q16 (by decide) q17) ?_
  refine xm_E_s r_X11_goesFrom_43 rfl rfl ?_
  refine xm_E_s r_X11_goesFrom_44 rfl rfl ?_
  refine xm_E_cv [.ref l0, .int l3] [.int (h6.1 v7 l1.toNatClampNeg), .int r3, .ref v7] r_X11_goesFrom_45 rfl rfl (Nat.le_of_ble_eq_true rfl) (xm_rc q1 (by decide)) rfl q18 ?_
  refine xm_E_s r_X11_goesFrom_46 rfl rfl ?_
  refine xm_E_s r_X11_goesFrom_47 rfl (xm_T_asi rfl q16 q19) ?_
  refine xm_E_s r_X11_goesFrom_48 rfl rfl ?_
  refine xm_E_s (ls1 := [some (.ref l0), some (.int l1), some (.int (1 : Int32)), some (.int l3), some (.int r3)]) r_X11_goesFrom_49 rfl rfl ?_
  refine xm_E_s (ls1 := [some (.ref l0), some (.int l1), some (.int (1 : Int32)), some (.int (l3 + (1 : Int32))), some (.int r3)]) r_X11_goesFrom_50 rfl rfl ?_
  refine xm_E_s r_X11_goesFrom_51 rfl rfl ?_
  exact K
theorem p_X11_goesFrom_4_4 {X : xm_X} {P : List xm_M} {d : Nat} {h : xm_H} {l0 : Nat} {l1 : Int32} {l2 : Int32} {l3 : Int32} {l4 : Option Value} {h0 : xm_H} {r0 : Int32} {v1 : Nat} {n2 : Nat} {h3 : xm_H} {r3 : Int32} {v4 : Nat} {n5 : Nat} {h6 : xm_H} {r6 : Int32} {ro : Option Value} {ho : xm_H} (q0 : xm_V X P d 262 [.ref l0] h (some (.int r0)) h0) (q1 : X.1[l0]? = some (.inr 10)) (q2 : ¬ (r0 ≤ l3)) (q3 : h0.2.2 l0 20 = some v1) (q4 : X.1[v1]? = some (.inl (0, n2))) (q5 : ¬ (l1 < 0 ∨ n2 ≤ l1.toNatClampNeg)) (q6 : ¬ ((1000000000 : Int32) ≤ h0.1 v1 l1.toNatClampNeg)) (q7 : xm_V X P d 263 [.ref l0, .int l1, .int l3] h0 (some (.int r3)) h3) (q8 : ¬ (r3 = (-1 : Int32))) (q9 : h3.2.2 l0 20 = some v4) (q10 : X.1[v4]? = some (.inl (0, n5))) (q11 : ¬ (r3 < 0 ∨ n5 ≤ r3.toNatClampNeg)) (q12 : ¬ (l1 < 0 ∨ n5 ≤ l1.toNatClampNeg)) (q13 : xm_V X P d 265 [.ref l0, .int l3] h3 (some (.int r6)) h6) (q14 : ¬ ((h3.1 v4 l1.toNatClampNeg) + r6 < h3.1 v4 r3.toNatClampNeg)) (K : xm_E X P d co_X11_goesFrom 4 [some (.ref l0), some (.int l1), some (.int l2), some (.int (l3 + (1 : Int32))), some (.int r3)] [] h6 ro ho) : xm_E X P d co_X11_goesFrom 4 [some (.ref l0), some (.int l1), some (.int l2), some (.int l3), l4] [] h ro ho := by
  refine xm_E_s r_X11_goesFrom_4 rfl rfl ?_
  refine xm_E_s r_X11_goesFrom_5 rfl rfl ?_
  refine xm_E_cv [.ref l0] [.int l3] r_X11_goesFrom_6 rfl rfl (Nat.le_of_ble_eq_true rfl) (xm_rc q1 (by decide)) rfl q0 ?_
  refine xm_E_s r_X11_goesFrom_7 rfl rfl ?_
  refine xm_E_f q2 ?_
  refine xm_E_s r_X11_goesFrom_8 rfl rfl ?_
  refine xm_E_s r_X11_goesFrom_9 rfl (xm_T_gr rfl q1 rfl rfl q3) ?_
  refine xm_E_s r_X11_goesFrom_10 rfl rfl ?_
  refine xm_E_s r_X11_goesFrom_11 rfl (xm_T_iald rfl q4 (by decide) q5) ?_
  refine xm_E_s r_X11_goesFrom_12 rfl rfl ?_
  refine xm_E_s r_X11_goesFrom_13 rfl rfl ?_
  refine xm_E_f q6 ?_
  refine xm_E_s r_X11_goesFrom_14 rfl rfl ?_
  refine xm_E_s r_X11_goesFrom_15 rfl rfl ?_
  refine xm_E_s r_X11_goesFrom_16 rfl rfl ?_
  refine xm_E_cv [.ref l0, .int l1, .int l3] [] r_X11_goesFrom_17 rfl rfl (Nat.le_of_ble_eq_true rfl) (xm_rc q1 (by decide)) rfl q7 ?_
  refine xm_E_s (ls1 := [some (.ref l0), some (.int l1), some (.int l2), some (.int l3), some (.int r3)]) r_X11_goesFrom_18 rfl rfl ?_
  refine xm_E_s r_X11_goesFrom_19 rfl rfl ?_
  refine xm_E_s r_X11_goesFrom_20 rfl rfl ?_
  refine xm_E_s r_X11_goesFrom_21 rfl rfl ?_
  refine xm_E_f q8 ?_
  refine xm_E_s r_X11_goesFrom_22 rfl rfl ?_
  refine xm_E_s r_X11_goesFrom_23 rfl (xm_T_gr rfl q1 rfl rfl q9) ?_
  refine xm_E_s r_X11_goesFrom_24 rfl rfl ?_
  refine xm_E_s r_X11_goesFrom_25 rfl (xm_T_iald rfl q10 (by decide) q11) ?_
  refine xm_E_s r_X11_goesFrom_26 rfl rfl ?_
  refine xm_E_s r_X11_goesFrom_27 rfl (xm_T_gr rfl q1 rfl rfl q9) ?_
  refine xm_E_s r_X11_goesFrom_28 rfl rfl ?_
  refine xm_E_s r_X11_goesFrom_29 rfl (xm_T_iald rfl q10 (by decide) q12) ?_
  refine xm_E_s r_X11_goesFrom_30 rfl rfl ?_
  refine xm_E_s r_X11_goesFrom_31 rfl rfl ?_
  refine xm_E_cv [.ref l0, .int l3] [.int (h3.1 v4 l1.toNatClampNeg), .int (h3.1 v4 r3.toNatClampNeg)] r_X11_goesFrom_32 rfl rfl (Nat.le_of_ble_eq_true rfl) (xm_rc q1 (by decide)) rfl q13 ?_
  refine xm_E_s r_X11_goesFrom_33 rfl rfl ?_
  refine xm_E_s r_X11_goesFrom_34 rfl rfl ?_
  refine xm_E_f q14 ?_
  refine xm_E_s r_X11_goesFrom_35 rfl rfl ?_
  refine xm_E_s (ls1 := [some (.ref l0), some (.int l1), some (.int l2), some (.int (l3 + (1 : Int32))), some (.int r3)]) r_X11_goesFrom_50 rfl rfl ?_
  refine xm_E_s r_X11_goesFrom_51 rfl rfl ?_
  exact K
theorem r_X11_costOf_0 : co_X11_costOf[0]? = some ((0, .aload_n 0, 0, 0, 0, 0, 0, 0, []) : xm_I) := rfl
theorem r_X11_costOf_1 : co_X11_costOf[1]? = some ((1, .getfield 383, 1405, 10, 25, 3, 0, 0, []) : xm_I) := rfl
theorem r_X11_costOf_2 : co_X11_costOf[2]? = some ((4, .ifCond .eq 11, 0, 0, 7, 0, 0, 0, []) : xm_I) := rfl
theorem r_X11_costOf_3 : co_X11_costOf[3]? = some ((7, .aload_n 0, 0, 0, 0, 0, 0, 0, []) : xm_I) := rfl
theorem r_X11_costOf_4 : co_X11_costOf[4]? = some ((8, .iload_n 1, 0, 0, 0, 0, 0, 0, []) : xm_I) := rfl
theorem r_X11_costOf_5 : co_X11_costOf[5]? = some ((9, .invokevirtual 302, 1708, 234, 2, 10, 0, 0, []) : xm_I) := rfl
theorem r_X11_costOf_6 : co_X11_costOf[6]? = some ((12, .goto 4, 0, 0, 8, 0, 0, 0, []) : xm_I) := rfl
theorem r_X11_costOf_7 : co_X11_costOf[7]? = some ((15, .iconst 1, 0, 0, 0, 0, 1, 0, []) : xm_I) := rfl
theorem r_X11_costOf_8 : co_X11_costOf[8]? = some ((16, .ireturn, 0, 0, 0, 0, 0, 0, []) : xm_I) := rfl
theorem p_X11_costOf_0_0 {X : xm_X} {P : List xm_M} {d : Nat} {h : xm_H} {l0 : Nat} {l1 : Int32} (q0 : X.1[l0]? = some (.inr 10)) (q1 : h.1 l0 25 = (0 : Int32)) : xm_E X P d co_X11_costOf 0 [some (.ref l0), some (.int l1)] [] h (some (.int (1 : Int32))) h := by
  refine xm_E_s r_X11_costOf_0 rfl rfl ?_
  refine xm_E_s r_X11_costOf_1 rfl (xm_T_gi rfl q0 rfl (Or.inr rfl)) ?_
  refine xm_E_s r_X11_costOf_2 rfl rfl ?_
  refine xm_E_t q1 ?_
  refine xm_E_s r_X11_costOf_7 rfl rfl ?_
  exact xm_E_iret r_X11_costOf_8 rfl rfl
theorem p_X11_costOf_0_1 {X : xm_X} {P : List xm_M} {d : Nat} {h : xm_H} {l0 : Nat} {l1 : Int32} {h0 : xm_H} {r0 : Int32} (q0 : X.1[l0]? = some (.inr 10)) (q1 : ¬ (h.1 l0 25 = (0 : Int32))) (q2 : xm_V X P d 234 [.ref l0, .int l1] h (some (.int r0)) h0) : xm_E X P d co_X11_costOf 0 [some (.ref l0), some (.int l1)] [] h (some (.int r0)) h0 := by
  refine xm_E_s r_X11_costOf_0 rfl rfl ?_
  refine xm_E_s r_X11_costOf_1 rfl (xm_T_gi rfl q0 rfl (Or.inr rfl)) ?_
  refine xm_E_s r_X11_costOf_2 rfl rfl ?_
  refine xm_E_f q1 ?_
  refine xm_E_s r_X11_costOf_3 rfl rfl ?_
  refine xm_E_s r_X11_costOf_4 rfl rfl ?_
  refine xm_E_cv [.ref l0, .int l1] [] r_X11_costOf_5 rfl rfl (Nat.le_of_ble_eq_true rfl) (xm_rc q0 (by decide)) rfl q2 ?_
  refine xm_E_s r_X11_costOf_6 rfl rfl ?_
  exact xm_E_iret r_X11_costOf_8 rfl rfl
theorem r_X11_nearest_0 : co_X11_nearest[0]? = some ((0, .ldc_w 386, 1818, 0, 0, 0, 1000000000, 0, []) : xm_I) := rfl
theorem r_X11_nearest_1 : co_X11_nearest[1]? = some ((3, .istore_n 1, 0, 0, 0, 0, 0, 0, []) : xm_I) := rfl
theorem r_X11_nearest_2 : co_X11_nearest[2]? = some ((4, .iconst 0, 0, 0, 0, 0, 0, 0, []) : xm_I) := rfl
theorem r_X11_nearest_3 : co_X11_nearest[3]? = some ((5, .istore_n 2, 0, 0, 0, 0, 0, 0, []) : xm_I) := rfl
theorem r_X11_nearest_4 : co_X11_nearest[4]? = some ((6, .iload_n 2, 0, 0, 0, 0, 0, 0, []) : xm_I) := rfl
theorem r_X11_nearest_5 : co_X11_nearest[5]? = some ((7, .aload_n 0, 0, 0, 0, 0, 0, 0, []) : xm_I) := rfl
theorem r_X11_nearest_6 : co_X11_nearest[6]? = some ((8, .getfield 387, 1403, 10, 23, 0, 0, 0, []) : xm_I) := rfl
theorem r_X11_nearest_7 : co_X11_nearest[7]? = some ((11, .if_icmp .ge 38, 0, 0, 27, 0, 0, 0, []) : xm_I) := rfl
theorem r_X11_nearest_8 : co_X11_nearest[8]? = some ((14, .aload_n 0, 0, 0, 0, 0, 0, 0, []) : xm_I) := rfl
theorem r_X11_nearest_9 : co_X11_nearest[9]? = some ((15, .aload_n 0, 0, 0, 0, 0, 0, 0, []) : xm_I) := rfl
theorem r_X11_nearest_10 : co_X11_nearest[10]? = some ((16, .getfield 41, 1402, 10, 22, 2, 0, 0, []) : xm_I) := rfl
theorem r_X11_nearest_11 : co_X11_nearest[11]? = some ((19, .iload_n 2, 0, 0, 0, 0, 0, 0, []) : xm_I) := rfl
theorem r_X11_nearest_12 : co_X11_nearest[12]? = some ((20, .iaload, 0, 0, 0, 0, 0, 0, []) : xm_I) := rfl
theorem r_X11_nearest_13 : co_X11_nearest[13]? = some ((21, .invokevirtual 402, 1839, 267, 2, 10, 0, 0, []) : xm_I) := rfl
theorem r_X11_nearest_14 : co_X11_nearest[14]? = some ((24, .ifCond .eq 19, 0, 0, 25, 0, 0, 0, []) : xm_I) := rfl
theorem r_X11_nearest_15 : co_X11_nearest[15]? = some ((27, .iload_n 1, 0, 0, 0, 0, 0, 0, []) : xm_I) := rfl
theorem r_X11_nearest_16 : co_X11_nearest[16]? = some ((28, .aload_n 0, 0, 0, 0, 0, 0, 0, []) : xm_I) := rfl
theorem r_X11_nearest_17 : co_X11_nearest[17]? = some ((29, .getfield 35, 1400, 10, 20, 2, 0, 0, []) : xm_I) := rfl
theorem r_X11_nearest_18 : co_X11_nearest[18]? = some ((32, .aload_n 0, 0, 0, 0, 0, 0, 0, []) : xm_I) := rfl
theorem r_X11_nearest_19 : co_X11_nearest[19]? = some ((33, .getfield 41, 1402, 10, 22, 2, 0, 0, []) : xm_I) := rfl
theorem r_X11_nearest_20 : co_X11_nearest[20]? = some ((36, .iload_n 2, 0, 0, 0, 0, 0, 0, []) : xm_I) := rfl
theorem r_X11_nearest_21 : co_X11_nearest[21]? = some ((37, .iaload, 0, 0, 0, 0, 0, 0, []) : xm_I) := rfl
theorem r_X11_nearest_22 : co_X11_nearest[22]? = some ((38, .iaload, 0, 0, 0, 0, 0, 0, []) : xm_I) := rfl
theorem r_X11_nearest_23 : co_X11_nearest[23]? = some ((39, .invokestatic 119, 1539, 0, 0, 3, 0, 0, []) : xm_I) := rfl
theorem r_X11_nearest_24 : co_X11_nearest[24]? = some ((42, .istore_n 1, 0, 0, 0, 0, 0, 0, []) : xm_I) := rfl
theorem r_X11_nearest_25 : co_X11_nearest[25]? = some ((43, .iinc 2 1, 0, 0, 0, 0, 1, 0, []) : xm_I) := rfl
theorem r_X11_nearest_26 : co_X11_nearest[26]? = some ((46, .goto (-40), 0, 0, 4, 0, 0, 0, []) : xm_I) := rfl
theorem r_X11_nearest_27 : co_X11_nearest[27]? = some ((49, .iload_n 1, 0, 0, 0, 0, 0, 0, []) : xm_I) := rfl
theorem r_X11_nearest_28 : co_X11_nearest[28]? = some ((50, .ireturn, 0, 0, 0, 0, 0, 0, []) : xm_I) := rfl
theorem p_X11_nearest_0_0 {X : xm_X} {P : List xm_M} {d : Nat} {h : xm_H} {l0 : Nat} {ro : Option Value} {ho : xm_H}  (K : xm_E X P d co_X11_nearest 4 [some (.ref l0), some (.int (1000000000 : Int32)), some (.int (0 : Int32))] [] h ro ho) : xm_E X P d co_X11_nearest 0 [some (.ref l0), none, none] [] h ro ho := by
  refine xm_E_s r_X11_nearest_0 rfl rfl ?_
  refine xm_E_s (ls1 := [some (.ref l0), some (.int (1000000000 : Int32)), none]) r_X11_nearest_1 rfl rfl ?_
  refine xm_E_s r_X11_nearest_2 rfl rfl ?_
  refine xm_E_s (ls1 := [some (.ref l0), some (.int (1000000000 : Int32)), some (.int (0 : Int32))]) r_X11_nearest_3 rfl rfl ?_
  exact K
theorem p_X11_nearest_4_0 {X : xm_X} {P : List xm_M} {d : Nat} {h : xm_H} {l0 : Nat} {l1 : Int32} {l2 : Int32} (q0 : X.1[l0]? = some (.inr 10)) (q1 : h.1 l0 23 ≤ l2) : xm_E X P d co_X11_nearest 4 [some (.ref l0), some (.int l1), some (.int l2)] [] h (some (.int l1)) h := by
  refine xm_E_s r_X11_nearest_4 rfl rfl ?_
  refine xm_E_s r_X11_nearest_5 rfl rfl ?_
  refine xm_E_s r_X11_nearest_6 rfl (xm_T_gi rfl q0 rfl (Or.inl rfl)) ?_
  refine xm_E_s r_X11_nearest_7 rfl rfl ?_
  refine xm_E_t q1 ?_
  refine xm_E_s r_X11_nearest_27 rfl rfl ?_
  exact xm_E_iret r_X11_nearest_28 rfl rfl
theorem p_X11_nearest_4_1 {X : xm_X} {P : List xm_M} {d : Nat} {h : xm_H} {l0 : Nat} {l1 : Int32} {l2 : Int32} {v0 : Nat} {n1 : Nat} {h2 : xm_H} {r2 : Int32} {ro : Option Value} {ho : xm_H} (q0 : X.1[l0]? = some (.inr 10)) (q1 : ¬ (h.1 l0 23 ≤ l2)) (q2 : h.2.2 l0 22 = some v0) (q3 : X.1[v0]? = some (.inl (0, n1))) (q4 : ¬ (l2 < 0 ∨ n1 ≤ l2.toNatClampNeg)) (q5 : xm_V X P d 267 [.ref l0, .int (h.1 v0 l2.toNatClampNeg)] h (some (.int r2)) h2) (q6 : r2 = (0 : Int32)) (K : xm_E X P d co_X11_nearest 4 [some (.ref l0), some (.int l1), some (.int (l2 + (1 : Int32)))] [] h2 ro ho) : xm_E X P d co_X11_nearest 4 [some (.ref l0), some (.int l1), some (.int l2)] [] h ro ho := by
  refine xm_E_s r_X11_nearest_4 rfl rfl ?_
  refine xm_E_s r_X11_nearest_5 rfl rfl ?_
  refine xm_E_s r_X11_nearest_6 rfl (xm_T_gi rfl q0 rfl (Or.inl rfl)) ?_
  refine xm_E_s r_X11_nearest_7 rfl rfl ?_
  refine xm_E_f q1 ?_
  refine xm_E_s r_X11_nearest_8 rfl rfl ?_
  refine xm_E_s r_X11_nearest_9 rfl rfl ?_
  refine xm_E_s r_X11_nearest_10 rfl (xm_T_gr rfl q0 rfl rfl q2) ?_
  refine xm_E_s r_X11_nearest_11 rfl rfl ?_
  refine xm_E_s r_X11_nearest_12 rfl (xm_T_iald rfl q3 (by decide) q4) ?_
  refine xm_E_cv [.ref l0, .int (h.1 v0 l2.toNatClampNeg)] [] r_X11_nearest_13 rfl rfl (Nat.le_of_ble_eq_true rfl) (xm_rc q0 (by decide)) rfl q5 ?_
  refine xm_E_s r_X11_nearest_14 rfl rfl ?_
  refine xm_E_t q6 ?_
  refine xm_E_s (ls1 := [some (.ref l0), some (.int l1), some (.int (l2 + (1 : Int32)))]) r_X11_nearest_25 rfl rfl ?_
  refine xm_E_s r_X11_nearest_26 rfl rfl ?_
  exact K
theorem p_X11_nearest_4_2 {X : xm_X} {P : List xm_M} {d : Nat} {h : xm_H} {l0 : Nat} {l1 : Int32} {l2 : Int32} {v0 : Nat} {n1 : Nat} {h2 : xm_H} {r2 : Int32} {v3 : Nat} {v4 : Nat} {n5 : Nat} {n6 : Nat} {ro : Option Value} {ho : xm_H} (q0 : X.1[l0]? = some (.inr 10)) (q1 : ¬ (h.1 l0 23 ≤ l2)) (q2 : h.2.2 l0 22 = some v0) (q3 : X.1[v0]? = some (.inl (0, n1))) (q4 : ¬ (l2 < 0 ∨ n1 ≤ l2.toNatClampNeg)) (q5 : xm_V X P d 267 [.ref l0, .int (h.1 v0 l2.toNatClampNeg)] h (some (.int r2)) h2) (q6 : ¬ (r2 = (0 : Int32))) (q7 : h2.2.2 l0 20 = some v3) (q8 : h2.2.2 l0 22 = some v4) (q9 : X.1[v4]? = some (.inl (0, n5))) (q10 : ¬ (l2 < 0 ∨ n5 ≤ l2.toNatClampNeg)) (q11 : X.1[v3]? = some (.inl (0, n6))) (q12 : ¬ (h2.1 v4 l2.toNatClampNeg < 0 ∨ n6 ≤ (h2.1 v4 l2.toNatClampNeg).toNatClampNeg)) (K : xm_E X P d co_X11_nearest 4 [some (.ref l0), some (.int (if h2.1 v3 ((h2.1 v4 l2.toNatClampNeg).toNatClampNeg) < l1 then h2.1 v3 ((h2.1 v4 l2.toNatClampNeg).toNatClampNeg) else l1)), some (.int (l2 + (1 : Int32)))] [] h2 ro ho) : xm_E X P d co_X11_nearest 4 [some (.ref l0), some (.int l1), some (.int l2)] [] h ro ho := by
  refine xm_E_s r_X11_nearest_4 rfl rfl ?_
  refine xm_E_s r_X11_nearest_5 rfl rfl ?_
  refine xm_E_s r_X11_nearest_6 rfl (xm_T_gi rfl q0 rfl (Or.inl rfl)) ?_
  refine xm_E_s r_X11_nearest_7 rfl rfl ?_
  refine xm_E_f q1 ?_
  refine xm_E_s r_X11_nearest_8 rfl rfl ?_
  refine xm_E_s r_X11_nearest_9 rfl rfl ?_
  refine xm_E_s r_X11_nearest_10 rfl (xm_T_gr rfl q0 rfl rfl q2) ?_
  refine xm_E_s r_X11_nearest_11 rfl rfl ?_
  refine xm_E_s r_X11_nearest_12 rfl (xm_T_iald rfl q3 (by decide) q4) ?_
  refine xm_E_cv [.ref l0, .int (h.1 v0 l2.toNatClampNeg)] [] r_X11_nearest_13 rfl rfl (Nat.le_of_ble_eq_true rfl) (xm_rc q0 (by decide)) rfl q5 ?_
  refine xm_E_s r_X11_nearest_14 rfl rfl ?_
  refine xm_E_f q6 ?_
  refine xm_E_s r_X11_nearest_15 rfl rfl ?_
  refine xm_E_s r_X11_nearest_16 rfl rfl ?_
  refine xm_E_s r_X11_nearest_17 rfl (xm_T_gr rfl q0 rfl rfl q7) ?_
  refine xm_E_s r_X11_nearest_18 rfl rfl ?_
  refine xm_E_s r_X11_nearest_19 rfl (xm_T_gr rfl q0 rfl rfl q8) ?_
  refine xm_E_s r_X11_nearest_20 rfl rfl ?_
  refine xm_E_s r_X11_nearest_21 rfl (xm_T_iald rfl q9 (by decide) q10) ?_
  refine xm_E_s r_X11_nearest_22 rfl (xm_T_iald rfl q11 (by decide) q12) ?_
  refine xm_E_s r_X11_nearest_23 rfl rfl ?_
  refine xm_E_s (ls1 := [some (.ref l0), some (.int (if h2.1 v3 ((h2.1 v4 l2.toNatClampNeg).toNatClampNeg) < l1 then h2.1 v3 ((h2.1 v4 l2.toNatClampNeg).toNatClampNeg) else l1)), some (.int l2)]) r_X11_nearest_24 rfl rfl ?_
  refine xm_E_s (ls1 := [some (.ref l0), some (.int (if h2.1 v3 ((h2.1 v4 l2.toNatClampNeg).toNatClampNeg) < l1 then h2.1 v3 ((h2.1 v4 l2.toNatClampNeg).toNatClampNeg) else l1)), some (.int (l2 + (1 : Int32)))]) r_X11_nearest_25 rfl rfl ?_
  refine xm_E_s r_X11_nearest_26 rfl rfl ?_
  exact K
theorem r_X11_isAsWished_0 : co_X11_isAsWished[0]? = some ((0, .iload_n 1, 0, 0, 0, 0, 0, 0, []) : xm_I) := rfl
theorem r_X11_isAsWished_1 : co_X11_isAsWished[1]? = some ((1, .invokestatic 280, 1686, 228, 1, 0, 0, 0, []) : xm_I) := rfl
theorem r_X11_isAsWished_2 : co_X11_isAsWished[2]? = some ((4, .ifCond .ne 31, 0, 0, 17, 0, 0, 0, []) : xm_I) := rfl
theorem r_X11_isAsWished_3 : co_X11_isAsWished[3]? = some ((7, .iload_n 1, 0, 0, 0, 0, 0, 0, []) : xm_I) := rfl
theorem r_X11_isAsWished_4 : co_X11_isAsWished[4]? = some ((8, .invokestatic 265, 1674, 224, 1, 0, 0, 0, []) : xm_I) := rfl
theorem r_X11_isAsWished_5 : co_X11_isAsWished[5]? = some ((11, .aload_n 0, 0, 0, 0, 0, 0, 0, []) : xm_I) := rfl
theorem r_X11_isAsWished_6 : co_X11_isAsWished[6]? = some ((12, .getfield 9, 1381, 10, 1, 2, 0, 0, []) : xm_I) := rfl
theorem r_X11_isAsWished_7 : co_X11_isAsWished[7]? = some ((15, .bipush 14, 0, 0, 0, 0, 14, 0, []) : xm_I) := rfl
theorem r_X11_isAsWished_8 : co_X11_isAsWished[8]? = some ((17, .iaload, 0, 0, 0, 0, 0, 0, []) : xm_I) := rfl
theorem r_X11_isAsWished_9 : co_X11_isAsWished[9]? = some ((18, .if_icmp .ne 17, 0, 0, 17, 0, 0, 0, []) : xm_I) := rfl
theorem r_X11_isAsWished_10 : co_X11_isAsWished[10]? = some ((21, .iload_n 1, 0, 0, 0, 0, 0, 0, []) : xm_I) := rfl
theorem r_X11_isAsWished_11 : co_X11_isAsWished[11]? = some ((22, .invokestatic 268, 1677, 225, 1, 0, 0, 0, []) : xm_I) := rfl
theorem r_X11_isAsWished_12 : co_X11_isAsWished[12]? = some ((25, .aload_n 0, 0, 0, 0, 0, 0, 0, []) : xm_I) := rfl
theorem r_X11_isAsWished_13 : co_X11_isAsWished[13]? = some ((26, .getfield 9, 1381, 10, 1, 2, 0, 0, []) : xm_I) := rfl
theorem r_X11_isAsWished_14 : co_X11_isAsWished[14]? = some ((29, .bipush 15, 0, 0, 0, 0, 15, 0, []) : xm_I) := rfl
theorem r_X11_isAsWished_15 : co_X11_isAsWished[15]? = some ((31, .iaload, 0, 0, 0, 0, 0, 0, []) : xm_I) := rfl
theorem r_X11_isAsWished_16 : co_X11_isAsWished[16]? = some ((32, .if_icmp .eq 5, 0, 0, 19, 0, 0, 0, []) : xm_I) := rfl
theorem r_X11_isAsWished_17 : co_X11_isAsWished[17]? = some ((35, .iconst 0, 0, 0, 0, 0, 0, 0, []) : xm_I) := rfl
theorem r_X11_isAsWished_18 : co_X11_isAsWished[18]? = some ((36, .ireturn, 0, 0, 0, 3, 0, 0, []) : xm_I) := rfl
theorem r_X11_isAsWished_19 : co_X11_isAsWished[19]? = some ((37, .aload_n 0, 0, 0, 0, 0, 0, 0, []) : xm_I) := rfl
theorem r_X11_isAsWished_20 : co_X11_isAsWished[20]? = some ((38, .getfield 9, 1381, 10, 1, 2, 0, 0, []) : xm_I) := rfl
theorem r_X11_isAsWished_21 : co_X11_isAsWished[21]? = some ((41, .bipush 16, 0, 0, 0, 0, 16, 0, []) : xm_I) := rfl
theorem r_X11_isAsWished_22 : co_X11_isAsWished[22]? = some ((43, .iaload, 0, 0, 0, 0, 0, 0, []) : xm_I) := rfl
theorem r_X11_isAsWished_23 : co_X11_isAsWished[23]? = some ((44, .iconst 2, 0, 0, 0, 0, 2, 0, []) : xm_I) := rfl
theorem r_X11_isAsWished_24 : co_X11_isAsWished[24]? = some ((45, .if_icmp .eq 17, 0, 0, 32, 0, 0, 0, []) : xm_I) := rfl
theorem r_X11_isAsWished_25 : co_X11_isAsWished[25]? = some ((48, .aload_n 0, 0, 0, 0, 0, 0, 0, []) : xm_I) := rfl
theorem r_X11_isAsWished_26 : co_X11_isAsWished[26]? = some ((49, .getfield 9, 1381, 10, 1, 2, 0, 0, []) : xm_I) := rfl
theorem r_X11_isAsWished_27 : co_X11_isAsWished[27]? = some ((52, .bipush 16, 0, 0, 0, 0, 16, 0, []) : xm_I) := rfl
theorem r_X11_isAsWished_28 : co_X11_isAsWished[28]? = some ((54, .iaload, 0, 0, 0, 0, 0, 0, []) : xm_I) := rfl
theorem r_X11_isAsWished_29 : co_X11_isAsWished[29]? = some ((55, .iload_n 1, 0, 0, 0, 0, 0, 0, []) : xm_I) := rfl
theorem r_X11_isAsWished_30 : co_X11_isAsWished[30]? = some ((56, .invokestatic 277, 1683, 227, 1, 0, 0, 0, []) : xm_I) := rfl
theorem r_X11_isAsWished_31 : co_X11_isAsWished[31]? = some ((59, .if_icmp .ne 32, 0, 0, 47, 0, 0, 0, []) : xm_I) := rfl
theorem r_X11_isAsWished_32 : co_X11_isAsWished[32]? = some ((62, .aload_n 0, 0, 0, 0, 0, 0, 0, []) : xm_I) := rfl
theorem r_X11_isAsWished_33 : co_X11_isAsWished[33]? = some ((63, .getfield 9, 1381, 10, 1, 2, 0, 0, []) : xm_I) := rfl
theorem r_X11_isAsWished_34 : co_X11_isAsWished[34]? = some ((66, .bipush 17, 0, 0, 0, 0, 17, 0, []) : xm_I) := rfl
theorem r_X11_isAsWished_35 : co_X11_isAsWished[35]? = some ((68, .iaload, 0, 0, 0, 0, 0, 0, []) : xm_I) := rfl
theorem r_X11_isAsWished_36 : co_X11_isAsWished[36]? = some ((69, .iconst 5, 0, 0, 0, 0, 5, 0, []) : xm_I) := rfl
theorem r_X11_isAsWished_37 : co_X11_isAsWished[37]? = some ((70, .if_icmp .eq 17, 0, 0, 45, 0, 0, 0, []) : xm_I) := rfl
theorem r_X11_isAsWished_38 : co_X11_isAsWished[38]? = some ((73, .aload_n 0, 0, 0, 0, 0, 0, 0, []) : xm_I) := rfl
theorem r_X11_isAsWished_39 : co_X11_isAsWished[39]? = some ((74, .getfield 9, 1381, 10, 1, 2, 0, 0, []) : xm_I) := rfl
theorem r_X11_isAsWished_40 : co_X11_isAsWished[40]? = some ((77, .bipush 17, 0, 0, 0, 0, 17, 0, []) : xm_I) := rfl
theorem r_X11_isAsWished_41 : co_X11_isAsWished[41]? = some ((79, .iaload, 0, 0, 0, 0, 0, 0, []) : xm_I) := rfl
theorem r_X11_isAsWished_42 : co_X11_isAsWished[42]? = some ((80, .iload_n 1, 0, 0, 0, 0, 0, 0, []) : xm_I) := rfl
theorem r_X11_isAsWished_43 : co_X11_isAsWished[43]? = some ((81, .invokestatic 274, 1680, 226, 1, 0, 0, 0, []) : xm_I) := rfl
theorem r_X11_isAsWished_44 : co_X11_isAsWished[44]? = some ((84, .if_icmp .ne 7, 0, 0, 47, 0, 0, 0, []) : xm_I) := rfl
theorem r_X11_isAsWished_45 : co_X11_isAsWished[45]? = some ((87, .iconst 1, 0, 0, 0, 0, 1, 0, []) : xm_I) := rfl
theorem r_X11_isAsWished_46 : co_X11_isAsWished[46]? = some ((88, .goto 4, 0, 0, 48, 0, 0, 0, []) : xm_I) := rfl
theorem r_X11_isAsWished_47 : co_X11_isAsWished[47]? = some ((91, .iconst 0, 0, 0, 0, 0, 0, 0, []) : xm_I) := rfl
theorem r_X11_isAsWished_48 : co_X11_isAsWished[48]? = some ((92, .ireturn, 0, 0, 0, 3, 0, 0, []) : xm_I) := rfl
theorem p_X11_isAsWished_0_0 {X : xm_X} {P : List xm_M} {d : Nat} {h : xm_H} {l0 : Nat} {l1 : Int32} {h0 : xm_H} {r0 : Int32} {h1 : xm_H} {r1 : Int32} {v2 : Nat} {n3 : Nat} {h4 : xm_H} {r4 : Int32} {v5 : Nat} {n6 : Nat} (q0 : xm_V X P d 228 [.int l1] h (some (.int r0)) h0) (q1 : r0 = (0 : Int32)) (q2 : xm_V X P d 224 [.int l1] h0 (some (.int r1)) h1) (q3 : X.1[l0]? = some (.inr 10)) (q4 : h1.2.2 l0 1 = some v2) (q5 : X.1[v2]? = some (.inl (0, n3))) (q6 : 14 < n3) (q7 : r1 = h1.1 v2 14) (q8 : xm_V X P d 225 [.int l1] h1 (some (.int r4)) h4) (q9 : h4.2.2 l0 1 = some v5) (q10 : X.1[v5]? = some (.inl (0, n6))) (q11 : 15 < n6) (q12 : r4 = h4.1 v5 15) (q13 : 16 < n6) (q14 : h4.1 v5 16 = (2 : Int32)) (q15 : 17 < n6) (q16 : h4.1 v5 17 = (5 : Int32)) : xm_E X P d co_X11_isAsWished 0 [some (.ref l0), some (.int l1)] [] h (some (.int (1 : Int32))) h4 := by
  refine xm_E_s r_X11_isAsWished_0 rfl rfl ?_
  refine xm_E_cs [.int l1] [] r_X11_isAsWished_1 rfl rfl rfl (Nat.le_of_ble_eq_true rfl) rfl q0 ?_
  refine xm_E_s r_X11_isAsWished_2 rfl rfl ?_
  refine xm_E_t q1 ?_
  refine xm_E_s r_X11_isAsWished_3 rfl rfl ?_
  refine xm_E_cs [.int l1] [] r_X11_isAsWished_4 rfl rfl rfl (Nat.le_of_ble_eq_true rfl) rfl q2 ?_
  refine xm_E_s r_X11_isAsWished_5 rfl rfl ?_
  refine xm_E_s r_X11_isAsWished_6 rfl (xm_T_gr rfl q3 rfl rfl q4) ?_
  refine xm_E_s r_X11_isAsWished_7 rfl rfl ?_
  refine xm_E_s r_X11_isAsWished_8 rfl (xm_T_iald rfl q5 (by decide) (fun e => e.elim (fun e => absurd e (by decide)) (fun e => Nat.not_le.mpr q6 e))) ?_
  refine xm_E_s r_X11_isAsWished_9 rfl rfl ?_
  refine xm_E_t q7 ?_
  refine xm_E_s r_X11_isAsWished_10 rfl rfl ?_
  refine xm_E_cs [.int l1] [] r_X11_isAsWished_11 rfl rfl rfl (Nat.le_of_ble_eq_true rfl) rfl q8 ?_
  refine xm_E_s r_X11_isAsWished_12 rfl rfl ?_
  refine xm_E_s r_X11_isAsWished_13 rfl (xm_T_gr rfl q3 rfl rfl q9) ?_
  refine xm_E_s r_X11_isAsWished_14 rfl rfl ?_
  refine xm_E_s r_X11_isAsWished_15 rfl (xm_T_iald rfl q10 (by decide) (fun e => e.elim (fun e => absurd e (by decide)) (fun e => Nat.not_le.mpr q11 e))) ?_
  refine xm_E_s r_X11_isAsWished_16 rfl rfl ?_
  refine xm_E_t q12 ?_
  refine xm_E_s r_X11_isAsWished_19 rfl rfl ?_
  refine xm_E_s r_X11_isAsWished_20 rfl (xm_T_gr rfl q3 rfl rfl q9) ?_
  refine xm_E_s r_X11_isAsWished_21 rfl rfl ?_
  refine xm_E_s r_X11_isAsWished_22 rfl (xm_T_iald rfl q10 (by decide) (fun e => e.elim (fun e => absurd e (by decide)) (fun e => Nat.not_le.mpr q13 e))) ?_
  refine xm_E_s r_X11_isAsWished_23 rfl rfl ?_
  refine xm_E_s r_X11_isAsWished_24 rfl rfl ?_
  refine xm_E_t q14 ?_
  refine xm_E_s r_X11_isAsWished_32 rfl rfl ?_
  refine xm_E_s r_X11_isAsWished_33 rfl (xm_T_gr rfl q3 rfl rfl q9) ?_
  refine xm_E_s r_X11_isAsWished_34 rfl rfl ?_
  refine xm_E_s r_X11_isAsWished_35 rfl (xm_T_iald rfl q10 (by decide) (fun e => e.elim (fun e => absurd e (by decide)) (fun e => Nat.not_le.mpr q15 e))) ?_
  refine xm_E_s r_X11_isAsWished_36 rfl rfl ?_
  refine xm_E_s r_X11_isAsWished_37 rfl rfl ?_
  refine xm_E_t q16 ?_
  refine xm_E_s r_X11_isAsWished_45 rfl rfl ?_
  refine xm_E_s r_X11_isAsWished_46 rfl rfl ?_
  exact xm_E_iret r_X11_isAsWished_48 rfl rfl
theorem p_X11_isAsWished_0_1 {X : xm_X} {P : List xm_M} {d : Nat} {h : xm_H} {l0 : Nat} {l1 : Int32} {h0 : xm_H} {r0 : Int32} {h1 : xm_H} {r1 : Int32} {v2 : Nat} {n3 : Nat} {h4 : xm_H} {r4 : Int32} {v5 : Nat} {n6 : Nat} {h7 : xm_H} {r7 : Int32} (q0 : xm_V X P d 228 [.int l1] h (some (.int r0)) h0) (q1 : r0 = (0 : Int32)) (q2 : xm_V X P d 224 [.int l1] h0 (some (.int r1)) h1) (q3 : X.1[l0]? = some (.inr 10)) (q4 : h1.2.2 l0 1 = some v2) (q5 : X.1[v2]? = some (.inl (0, n3))) (q6 : 14 < n3) (q7 : r1 = h1.1 v2 14) (q8 : xm_V X P d 225 [.int l1] h1 (some (.int r4)) h4) (q9 : h4.2.2 l0 1 = some v5) (q10 : X.1[v5]? = some (.inl (0, n6))) (q11 : 15 < n6) (q12 : r4 = h4.1 v5 15) (q13 : 16 < n6) (q14 : h4.1 v5 16 = (2 : Int32)) (q15 : 17 < n6) (q16 : ¬ (h4.1 v5 17 = (5 : Int32))) (q17 : xm_V X P d 226 [.int l1] h4 (some (.int r7)) h7) (q18 : h4.1 v5 17 = r7) : xm_E X P d co_X11_isAsWished 0 [some (.ref l0), some (.int l1)] [] h (some (.int (1 : Int32))) h7 := by
  refine xm_E_s r_X11_isAsWished_0 rfl rfl ?_
  refine xm_E_cs [.int l1] [] r_X11_isAsWished_1 rfl rfl rfl (Nat.le_of_ble_eq_true rfl) rfl q0 ?_
  refine xm_E_s r_X11_isAsWished_2 rfl rfl ?_
  refine xm_E_t q1 ?_
  refine xm_E_s r_X11_isAsWished_3 rfl rfl ?_
  refine xm_E_cs [.int l1] [] r_X11_isAsWished_4 rfl rfl rfl (Nat.le_of_ble_eq_true rfl) rfl q2 ?_
  refine xm_E_s r_X11_isAsWished_5 rfl rfl ?_
  refine xm_E_s r_X11_isAsWished_6 rfl (xm_T_gr rfl q3 rfl rfl q4) ?_
  refine xm_E_s r_X11_isAsWished_7 rfl rfl ?_
  refine xm_E_s r_X11_isAsWished_8 rfl (xm_T_iald rfl q5 (by decide) (fun e => e.elim (fun e => absurd e (by decide)) (fun e => Nat.not_le.mpr q6 e))) ?_
  refine xm_E_s r_X11_isAsWished_9 rfl rfl ?_
  refine xm_E_t q7 ?_
  refine xm_E_s r_X11_isAsWished_10 rfl rfl ?_
  refine xm_E_cs [.int l1] [] r_X11_isAsWished_11 rfl rfl rfl (Nat.le_of_ble_eq_true rfl) rfl q8 ?_
  refine xm_E_s r_X11_isAsWished_12 rfl rfl ?_
  refine xm_E_s r_X11_isAsWished_13 rfl (xm_T_gr rfl q3 rfl rfl q9) ?_
  refine xm_E_s r_X11_isAsWished_14 rfl rfl ?_
  refine xm_E_s r_X11_isAsWished_15 rfl (xm_T_iald rfl q10 (by decide) (fun e => e.elim (fun e => absurd e (by decide)) (fun e => Nat.not_le.mpr q11 e))) ?_
  refine xm_E_s r_X11_isAsWished_16 rfl rfl ?_
  refine xm_E_t q12 ?_
  refine xm_E_s r_X11_isAsWished_19 rfl rfl ?_
  refine xm_E_s r_X11_isAsWished_20 rfl (xm_T_gr rfl q3 rfl rfl q9) ?_
  refine xm_E_s r_X11_isAsWished_21 rfl rfl ?_
  refine xm_E_s r_X11_isAsWished_22 rfl (xm_T_iald rfl q10 (by decide) (fun e => e.elim (fun e => absurd e (by decide)) (fun e => Nat.not_le.mpr q13 e))) ?_
  refine xm_E_s r_X11_isAsWished_23 rfl rfl ?_
  refine xm_E_s r_X11_isAsWished_24 rfl rfl ?_
  refine xm_E_t q14 ?_
  refine xm_E_s r_X11_isAsWished_32 rfl rfl ?_
  refine xm_E_s r_X11_isAsWished_33 rfl (xm_T_gr rfl q3 rfl rfl q9) ?_
  refine xm_E_s r_X11_isAsWished_34 rfl rfl ?_
  refine xm_E_s r_X11_isAsWished_35 rfl (xm_T_iald rfl q10 (by decide) (fun e => e.elim (fun e => absurd e (by decide)) (fun e => Nat.not_le.mpr q15 e))) ?_
  refine xm_E_s r_X11_isAsWished_36 rfl rfl ?_
  refine xm_E_s r_X11_isAsWished_37 rfl rfl ?_
  refine xm_E_f q16 ?_
  refine xm_E_s r_X11_isAsWished_38 rfl rfl ?_
  refine xm_E_s r_X11_isAsWished_39 rfl (xm_T_gr rfl q3 rfl rfl q9) ?_
  refine xm_E_s r_X11_isAsWished_40 rfl rfl ?_
  refine xm_E_s r_X11_isAsWished_41 rfl (xm_T_iald rfl q10 (by decide) (fun e => e.elim (fun e => absurd e (by decide)) (fun e => Nat.not_le.mpr q15 e))) ?_
  refine xm_E_s r_X11_isAsWished_42 rfl rfl ?_
  refine xm_E_cs [.int l1] [.int (h4.1 v5 17)] r_X11_isAsWished_43 rfl rfl rfl (Nat.le_of_ble_eq_true rfl) rfl q17 ?_
  refine xm_E_s r_X11_isAsWished_44 rfl rfl ?_
  refine xm_E_t q18 ?_
  refine xm_E_s r_X11_isAsWished_45 rfl rfl ?_
  refine xm_E_s r_X11_isAsWished_46 rfl rfl ?_
  exact xm_E_iret r_X11_isAsWished_48 rfl rfl
theorem p_X11_isAsWished_0_2 {X : xm_X} {P : List xm_M} {d : Nat} {h : xm_H} {l0 : Nat} {l1 : Int32} {h0 : xm_H} {r0 : Int32} {h1 : xm_H} {r1 : Int32} {v2 : Nat} {n3 : Nat} {h4 : xm_H} {r4 : Int32} {v5 : Nat} {n6 : Nat} {h7 : xm_H} {r7 : Int32} (q0 : xm_V X P d 228 [.int l1] h (some (.int r0)) h0) (q1 : r0 = (0 : Int32)) (q2 : xm_V X P d 224 [.int l1] h0 (some (.int r1)) h1) (q3 : X.1[l0]? = some (.inr 10)) (q4 : h1.2.2 l0 1 = some v2) (q5 : X.1[v2]? = some (.inl (0, n3))) (q6 : 14 < n3) (q7 : r1 = h1.1 v2 14) (q8 : xm_V X P d 225 [.int l1] h1 (some (.int r4)) h4) (q9 : h4.2.2 l0 1 = some v5) (q10 : X.1[v5]? = some (.inl (0, n6))) (q11 : 15 < n6) (q12 : r4 = h4.1 v5 15) (q13 : 16 < n6) (q14 : h4.1 v5 16 = (2 : Int32)) (q15 : 17 < n6) (q16 : ¬ (h4.1 v5 17 = (5 : Int32))) (q17 : xm_V X P d 226 [.int l1] h4 (some (.int r7)) h7) (q18 : ¬ (h4.1 v5 17 = r7)) : xm_E X P d co_X11_isAsWished 0 [some (.ref l0), some (.int l1)] [] h (some (.int (0 : Int32))) h7 := by
  refine xm_E_s r_X11_isAsWished_0 rfl rfl ?_
  refine xm_E_cs [.int l1] [] r_X11_isAsWished_1 rfl rfl rfl (Nat.le_of_ble_eq_true rfl) rfl q0 ?_
  refine xm_E_s r_X11_isAsWished_2 rfl rfl ?_
  refine xm_E_t q1 ?_
  refine xm_E_s r_X11_isAsWished_3 rfl rfl ?_
  refine xm_E_cs [.int l1] [] r_X11_isAsWished_4 rfl rfl rfl (Nat.le_of_ble_eq_true rfl) rfl q2 ?_
  refine xm_E_s r_X11_isAsWished_5 rfl rfl ?_
  refine xm_E_s r_X11_isAsWished_6 rfl (xm_T_gr rfl q3 rfl rfl q4) ?_
  refine xm_E_s r_X11_isAsWished_7 rfl rfl ?_
  refine xm_E_s r_X11_isAsWished_8 rfl (xm_T_iald rfl q5 (by decide) (fun e => e.elim (fun e => absurd e (by decide)) (fun e => Nat.not_le.mpr q6 e))) ?_
  refine xm_E_s r_X11_isAsWished_9 rfl rfl ?_
  refine xm_E_t q7 ?_
  refine xm_E_s r_X11_isAsWished_10 rfl rfl ?_
  refine xm_E_cs [.int l1] [] r_X11_isAsWished_11 rfl rfl rfl (Nat.le_of_ble_eq_true rfl) rfl q8 ?_
  refine xm_E_s r_X11_isAsWished_12 rfl rfl ?_
  refine xm_E_s r_X11_isAsWished_13 rfl (xm_T_gr rfl q3 rfl rfl q9) ?_
  refine xm_E_s r_X11_isAsWished_14 rfl rfl ?_
  refine xm_E_s r_X11_isAsWished_15 rfl (xm_T_iald rfl q10 (by decide) (fun e => e.elim (fun e => absurd e (by decide)) (fun e => Nat.not_le.mpr q11 e))) ?_
  refine xm_E_s r_X11_isAsWished_16 rfl rfl ?_
  refine xm_E_t q12 ?_
  refine xm_E_s r_X11_isAsWished_19 rfl rfl ?_
  refine xm_E_s r_X11_isAsWished_20 rfl (xm_T_gr rfl q3 rfl rfl q9) ?_
  refine xm_E_s r_X11_isAsWished_21 rfl rfl ?_
  refine xm_E_s r_X11_isAsWished_22 rfl (xm_T_iald rfl q10 (by decide) (fun e => e.elim (fun e => absurd e (by decide)) (fun e => Nat.not_le.mpr q13 e))) ?_
  refine xm_E_s r_X11_isAsWished_23 rfl rfl ?_
  refine xm_E_s r_X11_isAsWished_24 rfl rfl ?_
  refine xm_E_t q14 ?_
  refine xm_E_s r_X11_isAsWished_32 rfl rfl ?_
  refine xm_E_s r_X11_isAsWished_33 rfl (xm_T_gr rfl q3 rfl rfl q9) ?_
  refine xm_E_s r_X11_isAsWished_34 rfl rfl ?_
  refine xm_E_s r_X11_isAsWished_35 rfl (xm_T_iald rfl q10 (by decide) (fun e => e.elim (fun e => absurd e (by decide)) (fun e => Nat.not_le.mpr q15 e))) ?_
  refine xm_E_s r_X11_isAsWished_36 rfl rfl ?_
  refine xm_E_s r_X11_isAsWished_37 rfl rfl ?_
  refine xm_E_f q16 ?_
  refine xm_E_s r_X11_isAsWished_38 rfl rfl ?_
  refine xm_E_s r_X11_isAsWished_39 rfl (xm_T_gr rfl q3 rfl rfl q9) ?_
  refine xm_E_s r_X11_isAsWished_40 rfl rfl ?_
  refine xm_E_s r_X11_isAsWished_41 rfl (xm_T_iald rfl q10 (by decide) (fun e => e.elim (fun e => absurd e (by decide)) (fun e => Nat.not_le.mpr q15 e))) ?_
  refine xm_E_s r_X11_isAsWished_42 rfl rfl ?_
  refine xm_E_cs [.int l1] [.int (h4.1 v5 17)] r_X11_isAsWished_43 rfl rfl rfl (Nat.le_of_ble_eq_true rfl) rfl q17 ?_
  refine xm_E_s r_X11_isAsWished_44 rfl rfl ?_
  refine xm_E_f q18 ?_
  refine xm_E_s r_X11_isAsWished_47 rfl rfl ?_
  exact xm_E_iret r_X11_isAsWished_48 rfl rfl
theorem p_X11_isAsWished_0_3 {X : xm_X} {P : List xm_M} {d : Nat} {h : xm_H} {l0 : Nat} {l1 : Int32} {h0 : xm_H} {r0 : Int32} {h1 : xm_H} {r1 : Int32} {v2 : Nat} {n3 : Nat} {h4 : xm_H} {r4 : Int32} {v5 : Nat} {n6 : Nat} {h7 : xm_H} {r7 : Int32} {v8 : Nat} {n9 : Nat} (q0 : xm_V X P d 228 [.int l1] h (some (.int r0)) h0) (q1 : r0 = (0 : Int32)) (q2 : xm_V X P d 224 [.int l1] h0 (some (.int r1)) h1) (q3 : X.1[l0]? = some (.inr 10)) (q4 : h1.2.2 l0 1 = some v2) (q5 : X.1[v2]? = some (.inl (0, n3))) (q6 : 14 < n3) (q7 : r1 = h1.1 v2 14) (q8 : xm_V X P d 225 [.int l1] h1 (some (.int r4)) h4) (q9 : h4.2.2 l0 1 = some v5) (q10 : X.1[v5]? = some (.inl (0, n6))) (q11 : 15 < n6) (q12 : r4 = h4.1 v5 15) (q13 : 16 < n6) (q14 : ¬ (h4.1 v5 16 = (2 : Int32))) (q15 : xm_V X P d 227 [.int l1] h4 (some (.int r7)) h7) (q16 : h4.1 v5 16 = r7) (q17 : h7.2.2 l0 1 = some v8) (q18 : X.1[v8]? = some (.inl (0, n9))) (q19 : 17 < n9) (q20 : h7.1 v8 17 = (5 : Int32)) : xm_E X P d co_X11_isAsWished 0 [some (.ref l0), some (.int l1)] [] h (some (.int (1 : Int32))) h7 := by
  refine xm_E_s r_X11_isAsWished_0 rfl rfl ?_
  refine xm_E_cs [.int l1] [] r_X11_isAsWished_1 rfl rfl rfl (Nat.le_of_ble_eq_true rfl) rfl q0 ?_
  refine xm_E_s r_X11_isAsWished_2 rfl rfl ?_
  refine xm_E_t q1 ?_
  refine xm_E_s r_X11_isAsWished_3 rfl rfl ?_
  refine xm_E_cs [.int l1] [] r_X11_isAsWished_4 rfl rfl rfl (Nat.le_of_ble_eq_true rfl) rfl q2 ?_
  refine xm_E_s r_X11_isAsWished_5 rfl rfl ?_
  refine xm_E_s r_X11_isAsWished_6 rfl (xm_T_gr rfl q3 rfl rfl q4) ?_
  refine xm_E_s r_X11_isAsWished_7 rfl rfl ?_
  refine xm_E_s r_X11_isAsWished_8 rfl (xm_T_iald rfl q5 (by decide) (fun e => e.elim (fun e => absurd e (by decide)) (fun e => Nat.not_le.mpr q6 e))) ?_
  refine xm_E_s r_X11_isAsWished_9 rfl rfl ?_
  refine xm_E_t q7 ?_
  refine xm_E_s r_X11_isAsWished_10 rfl rfl ?_
  refine xm_E_cs [.int l1] [] r_X11_isAsWished_11 rfl rfl rfl (Nat.le_of_ble_eq_true rfl) rfl q8 ?_
  refine xm_E_s r_X11_isAsWished_12 rfl rfl ?_
  refine xm_E_s r_X11_isAsWished_13 rfl (xm_T_gr rfl q3 rfl rfl q9) ?_
  refine xm_E_s r_X11_isAsWished_14 rfl rfl ?_
  refine xm_E_s r_X11_isAsWished_15 rfl (xm_T_iald rfl q10 (by decide) (fun e => e.elim (fun e => absurd e (by decide)) (fun e => Nat.not_le.mpr q11 e))) ?_
  refine xm_E_s r_X11_isAsWished_16 rfl rfl ?_
  refine xm_E_t q12 ?_
  refine xm_E_s r_X11_isAsWished_19 rfl rfl ?_
  refine xm_E_s r_X11_isAsWished_20 rfl (xm_T_gr rfl q3 rfl rfl q9) ?_
  refine xm_E_s r_X11_isAsWished_21 rfl rfl ?_
  refine xm_E_s r_X11_isAsWished_22 rfl (xm_T_iald rfl q10 (by decide) (fun e => e.elim (fun e => absurd e (by decide)) (fun e => Nat.not_le.mpr q13 e))) ?_
  refine xm_E_s r_X11_isAsWished_23 rfl rfl ?_
  refine xm_E_s r_X11_isAsWished_24 rfl rfl ?_
  refine xm_E_f q14 ?_
  refine xm_E_s r_X11_isAsWished_25 rfl rfl ?_
  refine xm_E_s r_X11_isAsWished_26 rfl (xm_T_gr rfl q3 rfl rfl q9) ?_
  refine xm_E_s r_X11_isAsWished_27 rfl rfl ?_
  refine xm_E_s r_X11_isAsWished_28 rfl (xm_T_iald rfl q10 (by decide) (fun e => e.elim (fun e => absurd e (by decide)) (fun e => Nat.not_le.mpr q13 e))) ?_
  refine xm_E_s r_X11_isAsWished_29 rfl rfl ?_
  refine xm_E_cs [.int l1] [.int (h4.1 v5 16)] r_X11_isAsWished_30 rfl rfl rfl (Nat.le_of_ble_eq_true rfl) rfl q15 ?_
  refine xm_E_s r_X11_isAsWished_31 rfl rfl ?_
  refine xm_E_t q16 ?_
  refine xm_E_s r_X11_isAsWished_32 rfl rfl ?_
  refine xm_E_s r_X11_isAsWished_33 rfl (xm_T_gr rfl q3 rfl rfl q17) ?_
  refine xm_E_s r_X11_isAsWished_34 rfl rfl ?_
  refine xm_E_s r_X11_isAsWished_35 rfl (xm_T_iald rfl q18 (by decide) (fun e => e.elim (fun e => absurd e (by decide)) (fun e => Nat.not_le.mpr q19 e))) ?_
  refine xm_E_s r_X11_isAsWished_36 rfl rfl ?_
  refine xm_E_s r_X11_isAsWished_37 rfl rfl ?_
  refine xm_E_t q20 ?_
  refine xm_E_s r_X11_isAsWished_45 rfl rfl ?_
  refine xm_E_s r_X11_isAsWished_46 rfl rfl ?_
  exact xm_E_iret r_X11_isAsWished_48 rfl rfl
theorem p_X11_isAsWished_0_4 {X : xm_X} {P : List xm_M} {d : Nat} {h : xm_H} {l0 : Nat} {l1 : Int32} {h0 : xm_H} {r0 : Int32} {h1 : xm_H} {r1 : Int32} {v2 : Nat} {n3 : Nat} {h4 : xm_H} {r4 : Int32} {v5 : Nat} {n6 : Nat} {h7 : xm_H} {r7 : Int32} {v8 : Nat} {n9 : Nat} {h10 : xm_H} {r10 : Int32} (q0 : xm_V X P d 228 [.int l1] h (some (.int r0)) h0) (q1 : r0 = (0 : Int32)) (q2 : xm_V X P d 224 [.int l1] h0 (some (.int r1)) h1) (q3 : X.1[l0]? = some (.inr 10)) (q4 : h1.2.2 l0 1 = some v2) (q5 : X.1[v2]? = some (.inl (0, n3))) (q6 : 14 < n3) (q7 : r1 = h1.1 v2 14) (q8 : xm_V X P d 225 [.int l1] h1 (some (.int r4)) h4) (q9 : h4.2.2 l0 1 = some v5) (q10 : X.1[v5]? = some (.inl (0, n6))) (q11 : 15 < n6) (q12 : r4 = h4.1 v5 15) (q13 : 16 < n6) (q14 : ¬ (h4.1 v5 16 = (2 : Int32))) (q15 : xm_V X P d 227 [.int l1] h4 (some (.int r7)) h7) (q16 : h4.1 v5 16 = r7) (q17 : h7.2.2 l0 1 = some v8) (q18 : X.1[v8]? = some (.inl (0, n9))) (q19 : 17 < n9) (q20 : ¬ (h7.1 v8 17 = (5 : Int32))) (q21 : xm_V X P d 226 [.int l1] h7 (some (.int r10)) h10) (q22 : h7.1 v8 17 = r10) : xm_E X P d co_X11_isAsWished 0 [some (.ref l0), some (.int l1)] [] h (some (.int (1 : Int32))) h10 := by
  refine xm_E_s r_X11_isAsWished_0 rfl rfl ?_
  refine xm_E_cs [.int l1] [] r_X11_isAsWished_1 rfl rfl rfl (Nat.le_of_ble_eq_true rfl) rfl q0 ?_
  refine xm_E_s r_X11_isAsWished_2 rfl rfl ?_
  refine xm_E_t q1 ?_
  refine xm_E_s r_X11_isAsWished_3 rfl rfl ?_
  refine xm_E_cs [.int l1] [] r_X11_isAsWished_4 rfl rfl rfl (Nat.le_of_ble_eq_true rfl) rfl q2 ?_
  refine xm_E_s r_X11_isAsWished_5 rfl rfl ?_
  refine xm_E_s r_X11_isAsWished_6 rfl (xm_T_gr rfl q3 rfl rfl q4) ?_
  refine xm_E_s r_X11_isAsWished_7 rfl rfl ?_
  refine xm_E_s r_X11_isAsWished_8 rfl (xm_T_iald rfl q5 (by decide) (fun e => e.elim (fun e => absurd e (by decide)) (fun e => Nat.not_le.mpr q6 e))) ?_
  refine xm_E_s r_X11_isAsWished_9 rfl rfl ?_
  refine xm_E_t q7 ?_
  refine xm_E_s r_X11_isAsWished_10 rfl rfl ?_
  refine xm_E_cs [.int l1] [] r_X11_isAsWished_11 rfl rfl rfl (Nat.le_of_ble_eq_true rfl) rfl q8 ?_
  refine xm_E_s r_X11_isAsWished_12 rfl rfl ?_
  refine xm_E_s r_X11_isAsWished_13 rfl (xm_T_gr rfl q3 rfl rfl q9) ?_
  refine xm_E_s r_X11_isAsWished_14 rfl rfl ?_
  refine xm_E_s r_X11_isAsWished_15 rfl (xm_T_iald rfl q10 (by decide) (fun e => e.elim (fun e => absurd e (by decide)) (fun e => Nat.not_le.mpr q11 e))) ?_
  refine xm_E_s r_X11_isAsWished_16 rfl rfl ?_
  refine xm_E_t q12 ?_
  refine xm_E_s r_X11_isAsWished_19 rfl rfl ?_
  refine xm_E_s r_X11_isAsWished_20 rfl (xm_T_gr rfl q3 rfl rfl q9) ?_
  refine xm_E_s r_X11_isAsWished_21 rfl rfl ?_
  refine xm_E_s r_X11_isAsWished_22 rfl (xm_T_iald rfl q10 (by decide) (fun e => e.elim (fun e => absurd e (by decide)) (fun e => Nat.not_le.mpr q13 e))) ?_
  refine xm_E_s r_X11_isAsWished_23 rfl rfl ?_
  refine xm_E_s r_X11_isAsWished_24 rfl rfl ?_
  refine xm_E_f q14 ?_
  refine xm_E_s r_X11_isAsWished_25 rfl rfl ?_
  refine xm_E_s r_X11_isAsWished_26 rfl (xm_T_gr rfl q3 rfl rfl q9) ?_
  refine xm_E_s r_X11_isAsWished_27 rfl rfl ?_
  refine xm_E_s r_X11_isAsWished_28 rfl (xm_T_iald rfl q10 (by decide) (fun e => e.elim (fun e => absurd e (by decide)) (fun e => Nat.not_le.mpr q13 e))) ?_
  refine xm_E_s r_X11_isAsWished_29 rfl rfl ?_
  refine xm_E_cs [.int l1] [.int (h4.1 v5 16)] r_X11_isAsWished_30 rfl rfl rfl (Nat.le_of_ble_eq_true rfl) rfl q15 ?_
  refine xm_E_s r_X11_isAsWished_31 rfl rfl ?_
  refine xm_E_t q16 ?_
  refine xm_E_s r_X11_isAsWished_32 rfl rfl ?_
  refine xm_E_s r_X11_isAsWished_33 rfl (xm_T_gr rfl q3 rfl rfl q17) ?_
  refine xm_E_s r_X11_isAsWished_34 rfl rfl ?_
  refine xm_E_s r_X11_isAsWished_35 rfl (xm_T_iald rfl q18 (by decide) (fun e => e.elim (fun e => absurd e (by decide)) (fun e => Nat.not_le.mpr q19 e))) ?_
  refine xm_E_s r_X11_isAsWished_36 rfl rfl ?_
  refine xm_E_s r_X11_isAsWished_37 rfl rfl ?_
  refine xm_E_f q20 ?_
  refine xm_E_s r_X11_isAsWished_38 rfl rfl ?_
  refine xm_E_s r_X11_isAsWished_39 rfl (xm_T_gr rfl q3 rfl rfl q17) ?_
  refine xm_E_s r_X11_isAsWished_40 rfl rfl ?_
  refine xm_E_s r_X11_isAsWished_41 rfl (xm_T_iald rfl q18 (by decide) (fun e => e.elim (fun e => absurd e (by decide)) (fun e => Nat.not_le.mpr q19 e))) ?_
  refine xm_E_s r_X11_isAsWished_42 rfl rfl ?_
  refine xm_E_cs [.int l1] [.int (h7.1 v8 17)] r_X11_isAsWished_43 rfl rfl rfl (Nat.le_of_ble_eq_true rfl) rfl q21 ?_
  refine xm_E_s r_X11_isAsWished_44 rfl rfl ?_
  refine xm_E_t q22 ?_
  refine xm_E_s r_X11_isAsWished_45 rfl rfl ?_
  refine xm_E_s r_X11_isAsWished_46 rfl rfl ?_
  exact xm_E_iret r_X11_isAsWished_48 rfl rfl
theorem p_X11_isAsWished_0_5 {X : xm_X} {P : List xm_M} {d : Nat} {h : xm_H} {l0 : Nat} {l1 : Int32} {h0 : xm_H} {r0 : Int32} {h1 : xm_H} {r1 : Int32} {v2 : Nat} {n3 : Nat} {h4 : xm_H} {r4 : Int32} {v5 : Nat} {n6 : Nat} {h7 : xm_H} {r7 : Int32} {v8 : Nat} {n9 : Nat} {h10 : xm_H} {r10 : Int32} (q0 : xm_V X P d 228 [.int l1] h (some (.int r0)) h0) (q1 : r0 = (0 : Int32)) (q2 : xm_V X P d 224 [.int l1] h0 (some (.int r1)) h1) (q3 : X.1[l0]? = some (.inr 10)) (q4 : h1.2.2 l0 1 = some v2) (q5 : X.1[v2]? = some (.inl (0, n3))) (q6 : 14 < n3) (q7 : r1 = h1.1 v2 14) (q8 : xm_V X P d 225 [.int l1] h1 (some (.int r4)) h4) (q9 : h4.2.2 l0 1 = some v5) (q10 : X.1[v5]? = some (.inl (0, n6))) (q11 : 15 < n6) (q12 : r4 = h4.1 v5 15) (q13 : 16 < n6) (q14 : ¬ (h4.1 v5 16 = (2 : Int32))) (q15 : xm_V X P d 227 [.int l1] h4 (some (.int r7)) h7) (q16 : h4.1 v5 16 = r7) (q17 : h7.2.2 l0 1 = some v8) (q18 : X.1[v8]? = some (.inl (0, n9))) (q19 : 17 < n9) (q20 : ¬ (h7.1 v8 17 = (5 : Int32))) (q21 : xm_V X P d 226 [.int l1] h7 (some (.int r10)) h10) (q22 : ¬ (h7.1 v8 17 = r10)) : xm_E X P d co_X11_isAsWished 0 [some (.ref l0), some (.int l1)] [] h (some (.int (0 : Int32))) h10 := by
  refine xm_E_s r_X11_isAsWished_0 rfl rfl ?_
  refine xm_E_cs [.int l1] [] r_X11_isAsWished_1 rfl rfl rfl (Nat.le_of_ble_eq_true rfl) rfl q0 ?_
  refine xm_E_s r_X11_isAsWished_2 rfl rfl ?_
  refine xm_E_t q1 ?_
  refine xm_E_s r_X11_isAsWished_3 rfl rfl ?_
  refine xm_E_cs [.int l1] [] r_X11_isAsWished_4 rfl rfl rfl (Nat.le_of_ble_eq_true rfl) rfl q2 ?_
  refine xm_E_s r_X11_isAsWished_5 rfl rfl ?_
  refine xm_E_s r_X11_isAsWished_6 rfl (xm_T_gr rfl q3 rfl rfl q4) ?_
  refine xm_E_s r_X11_isAsWished_7 rfl rfl ?_
  refine xm_E_s r_X11_isAsWished_8 rfl (xm_T_iald rfl q5 (by decide) (fun e => e.elim (fun e => absurd e (by decide)) (fun e => Nat.not_le.mpr q6 e))) ?_
  refine xm_E_s r_X11_isAsWished_9 rfl rfl ?_
  refine xm_E_t q7 ?_
  refine xm_E_s r_X11_isAsWished_10 rfl rfl ?_
  refine xm_E_cs [.int l1] [] r_X11_isAsWished_11 rfl rfl rfl (Nat.le_of_ble_eq_true rfl) rfl q8 ?_
  refine xm_E_s r_X11_isAsWished_12 rfl rfl ?_
  refine xm_E_s r_X11_isAsWished_13 rfl (xm_T_gr rfl q3 rfl rfl q9) ?_
  refine xm_E_s r_X11_isAsWished_14 rfl rfl ?_
  refine xm_E_s r_X11_isAsWished_15 rfl (xm_T_iald rfl q10 (by decide) (fun e => e.elim (fun e => absurd e (by decide)) (fun e => Nat.not_le.mpr q11 e))) ?_
  refine xm_E_s r_X11_isAsWished_16 rfl rfl ?_
  refine xm_E_t q12 ?_
  refine xm_E_s r_X11_isAsWished_19 rfl rfl ?_
  refine xm_E_s r_X11_isAsWished_20 rfl (xm_T_gr rfl q3 rfl rfl q9) ?_
  refine xm_E_s r_X11_isAsWished_21 rfl rfl ?_
  refine xm_E_s r_X11_isAsWished_22 rfl (xm_T_iald rfl q10 (by decide) (fun e => e.elim (fun e => absurd e (by decide)) (fun e => Nat.not_le.mpr q13 e))) ?_
  refine xm_E_s r_X11_isAsWished_23 rfl rfl ?_
  refine xm_E_s r_X11_isAsWished_24 rfl rfl ?_
  refine xm_E_f q14 ?_
  refine xm_E_s r_X11_isAsWished_25 rfl rfl ?_
  refine xm_E_s r_X11_isAsWished_26 rfl (xm_T_gr rfl q3 rfl rfl q9) ?_
  refine xm_E_s r_X11_isAsWished_27 rfl rfl ?_
  refine xm_E_s r_X11_isAsWished_28 rfl (xm_T_iald rfl q10 (by decide) (fun e => e.elim (fun e => absurd e (by decide)) (fun e => Nat.not_le.mpr q13 e))) ?_
  refine xm_E_s r_X11_isAsWished_29 rfl rfl ?_
  refine xm_E_cs [.int l1] [.int (h4.1 v5 16)] r_X11_isAsWished_30 rfl rfl rfl (Nat.le_of_ble_eq_true rfl) rfl q15 ?_
  refine xm_E_s r_X11_isAsWished_31 rfl rfl ?_
  refine xm_E_t q16 ?_
  refine xm_E_s r_X11_isAsWished_32 rfl rfl ?_
  refine xm_E_s r_X11_isAsWished_33 rfl (xm_T_gr rfl q3 rfl rfl q17) ?_
  refine xm_E_s r_X11_isAsWished_34 rfl rfl ?_
  refine xm_E_s r_X11_isAsWished_35 rfl (xm_T_iald rfl q18 (by decide) (fun e => e.elim (fun e => absurd e (by decide)) (fun e => Nat.not_le.mpr q19 e))) ?_
  refine xm_E_s r_X11_isAsWished_36 rfl rfl ?_
  refine xm_E_s r_X11_isAsWished_37 rfl rfl ?_
  refine xm_E_f q20 ?_
  refine xm_E_s r_X11_isAsWished_38 rfl rfl ?_
  refine xm_E_s r_X11_isAsWished_39 rfl (xm_T_gr rfl q3 rfl rfl q17) ?_
  refine xm_E_s r_X11_isAsWished_40 rfl rfl ?_
  refine xm_E_s r_X11_isAsWished_41 rfl (xm_T_iald rfl q18 (by decide) (fun e => e.elim (fun e => absurd e (by decide)) (fun e => Nat.not_le.mpr q19 e))) ?_
  refine xm_E_s r_X11_isAsWished_42 rfl rfl ?_
  refine xm_E_cs [.int l1] [.int (h7.1 v8 17)] r_X11_isAsWished_43 rfl rfl rfl (Nat.le_of_ble_eq_true rfl) rfl q21 ?_
  refine xm_E_s r_X11_isAsWished_44 rfl rfl ?_
  refine xm_E_f q22 ?_
  refine xm_E_s r_X11_isAsWished_47 rfl rfl ?_
  exact xm_E_iret r_X11_isAsWished_48 rfl rfl
theorem p_X11_isAsWished_0_6 {X : xm_X} {P : List xm_M} {d : Nat} {h : xm_H} {l0 : Nat} {l1 : Int32} {h0 : xm_H} {r0 : Int32} {h1 : xm_H} {r1 : Int32} {v2 : Nat} {n3 : Nat} {h4 : xm_H} {r4 : Int32} {v5 : Nat} {n6 : Nat} {h7 : xm_H} {r7 : Int32} (q0 : xm_V X P d 228 [.int l1] h (some (.int r0)) h0) (q1 : r0 = (0 : Int32)) (q2 : xm_V X P d 224 [.int l1] h0 (some (.int r1)) h1) (q3 : X.1[l0]? = some (.inr 10)) (q4 : h1.2.2 l0 1 = some v2) (q5 : X.1[v2]? = some (.inl (0, n3))) (q6 : 14 < n3) (q7 : r1 = h1.1 v2 14) (q8 : xm_V X P d 225 [.int l1] h1 (some (.int r4)) h4) (q9 : h4.2.2 l0 1 = some v5) (q10 : X.1[v5]? = some (.inl (0, n6))) (q11 : 15 < n6) (q12 : r4 = h4.1 v5 15) (q13 : 16 < n6) (q14 : ¬ (h4.1 v5 16 = (2 : Int32))) (q15 : xm_V X P d 227 [.int l1] h4 (some (.int r7)) h7) (q16 : ¬ (h4.1 v5 16 = r7)) : xm_E X P d co_X11_isAsWished 0 [some (.ref l0), some (.int l1)] [] h (some (.int (0 : Int32))) h7 := by
  refine xm_E_s r_X11_isAsWished_0 rfl rfl ?_
  refine xm_E_cs [.int l1] [] r_X11_isAsWished_1 rfl rfl rfl (Nat.le_of_ble_eq_true rfl) rfl q0 ?_
  refine xm_E_s r_X11_isAsWished_2 rfl rfl ?_
  refine xm_E_t q1 ?_
  refine xm_E_s r_X11_isAsWished_3 rfl rfl ?_
  refine xm_E_cs [.int l1] [] r_X11_isAsWished_4 rfl rfl rfl (Nat.le_of_ble_eq_true rfl) rfl q2 ?_
  refine xm_E_s r_X11_isAsWished_5 rfl rfl ?_
  refine xm_E_s r_X11_isAsWished_6 rfl (xm_T_gr rfl q3 rfl rfl q4) ?_
  refine xm_E_s r_X11_isAsWished_7 rfl rfl ?_
  refine xm_E_s r_X11_isAsWished_8 rfl (xm_T_iald rfl q5 (by decide) (fun e => e.elim (fun e => absurd e (by decide)) (fun e => Nat.not_le.mpr q6 e))) ?_
  refine xm_E_s r_X11_isAsWished_9 rfl rfl ?_
  refine xm_E_t q7 ?_
  refine xm_E_s r_X11_isAsWished_10 rfl rfl ?_
  refine xm_E_cs [.int l1] [] r_X11_isAsWished_11 rfl rfl rfl (Nat.le_of_ble_eq_true rfl) rfl q8 ?_
  refine xm_E_s r_X11_isAsWished_12 rfl rfl ?_
  refine xm_E_s r_X11_isAsWished_13 rfl (xm_T_gr rfl q3 rfl rfl q9) ?_
  refine xm_E_s r_X11_isAsWished_14 rfl rfl ?_
  refine xm_E_s r_X11_isAsWished_15 rfl (xm_T_iald rfl q10 (by decide) (fun e => e.elim (fun e => absurd e (by decide)) (fun e => Nat.not_le.mpr q11 e))) ?_
  refine xm_E_s r_X11_isAsWished_16 rfl rfl ?_
  refine xm_E_t q12 ?_
  refine xm_E_s r_X11_isAsWished_19 rfl rfl ?_
  refine xm_E_s r_X11_isAsWished_20 rfl (xm_T_gr rfl q3 rfl rfl q9) ?_
  refine xm_E_s r_X11_isAsWished_21 rfl rfl ?_
  refine xm_E_s r_X11_isAsWished_22 rfl (xm_T_iald rfl q10 (by decide) (fun e => e.elim (fun e => absurd e (by decide)) (fun e => Nat.not_le.mpr q13 e))) ?_
  refine xm_E_s r_X11_isAsWished_23 rfl rfl ?_
  refine xm_E_s r_X11_isAsWished_24 rfl rfl ?_
  refine xm_E_f q14 ?_
  refine xm_E_s r_X11_isAsWished_25 rfl rfl ?_
  refine xm_E_s r_X11_isAsWished_26 rfl (xm_T_gr rfl q3 rfl rfl q9) ?_
  refine xm_E_s r_X11_isAsWished_27 rfl rfl ?_
  refine xm_E_s r_X11_isAsWished_28 rfl (xm_T_iald rfl q10 (by decide) (fun e => e.elim (fun e => absurd e (by decide)) (fun e => Nat.not_le.mpr q13 e))) ?_
  refine xm_E_s r_X11_isAsWished_29 rfl rfl ?_
  refine xm_E_cs [.int l1] [.int (h4.1 v5 16)] r_X11_isAsWished_30 rfl rfl rfl (Nat.le_of_ble_eq_true rfl) rfl q15 ?_
  refine xm_E_s r_X11_isAsWished_31 rfl rfl ?_
  refine xm_E_f q16 ?_
  refine xm_E_s r_X11_isAsWished_47 rfl rfl ?_
  exact xm_E_iret r_X11_isAsWished_48 rfl rfl
theorem p_X11_isAsWished_0_7 {X : xm_X} {P : List xm_M} {d : Nat} {h : xm_H} {l0 : Nat} {l1 : Int32} {h0 : xm_H} {r0 : Int32} {h1 : xm_H} {r1 : Int32} {v2 : Nat} {n3 : Nat} {h4 : xm_H} {r4 : Int32} {v5 : Nat} {n6 : Nat} (q0 : xm_V X P d 228 [.int l1] h (some (.int r0)) h0) (q1 : r0 = (0 : Int32)) (q2 : xm_V X P d 224 [.int l1] h0 (some (.int r1)) h1) (q3 : X.1[l0]? = some (.inr 10)) (q4 : h1.2.2 l0 1 = some v2) (q5 : X.1[v2]? = some (.inl (0, n3))) (q6 : 14 < n3) (q7 : r1 = h1.1 v2 14) (q8 : xm_V X P d 225 [.int l1] h1 (some (.int r4)) h4) (q9 : h4.2.2 l0 1 = some v5) (q10 : X.1[v5]? = some (.inl (0, n6))) (q11 : 15 < n6) (q12 : ¬ (r4 = h4.1 v5 15)) : xm_E X P d co_X11_isAsWished 0 [some (.ref l0), some (.int l1)] [] h (some (.int (0 : Int32))) h4 := by
  refine xm_E_s r_X11_isAsWished_0 rfl rfl ?_
  refine xm_E_cs [.int l1] [] r_X11_isAsWished_1 rfl rfl rfl (Nat.le_of_ble_eq_true rfl) rfl q0 ?_
  refine xm_E_s r_X11_isAsWished_2 rfl rfl ?_
  refine xm_E_t q1 ?_
  refine xm_E_s r_X11_isAsWished_3 rfl rfl ?_
  refine xm_E_cs [.int l1] [] r_X11_isAsWished_4 rfl rfl rfl (Nat.le_of_ble_eq_true rfl) rfl q2 ?_
  refine xm_E_s r_X11_isAsWished_5 rfl rfl ?_
  refine xm_E_s r_X11_isAsWished_6 rfl (xm_T_gr rfl q3 rfl rfl q4) ?_
  refine xm_E_s r_X11_isAsWished_7 rfl rfl ?_
  refine xm_E_s r_X11_isAsWished_8 rfl (xm_T_iald rfl q5 (by decide) (fun e => e.elim (fun e => absurd e (by decide)) (fun e => Nat.not_le.mpr q6 e))) ?_
  refine xm_E_s r_X11_isAsWished_9 rfl rfl ?_
  refine xm_E_t q7 ?_
  refine xm_E_s r_X11_isAsWished_10 rfl rfl ?_
  refine xm_E_cs [.int l1] [] r_X11_isAsWished_11 rfl rfl rfl (Nat.le_of_ble_eq_true rfl) rfl q8 ?_
  refine xm_E_s r_X11_isAsWished_12 rfl rfl ?_
  refine xm_E_s r_X11_isAsWished_13 rfl (xm_T_gr rfl q3 rfl rfl q9) ?_
  refine xm_E_s r_X11_isAsWished_14 rfl rfl ?_
  refine xm_E_s r_X11_isAsWished_15 rfl (xm_T_iald rfl q10 (by decide) (fun e => e.elim (fun e => absurd e (by decide)) (fun e => Nat.not_le.mpr q11 e))) ?_
  refine xm_E_s r_X11_isAsWished_16 rfl rfl ?_
  refine xm_E_f q12 ?_
  refine xm_E_s r_X11_isAsWished_17 rfl rfl ?_
  exact xm_E_iret r_X11_isAsWished_18 rfl rfl
theorem p_X11_isAsWished_0_8 {X : xm_X} {P : List xm_M} {d : Nat} {h : xm_H} {l0 : Nat} {l1 : Int32} {h0 : xm_H} {r0 : Int32} {h1 : xm_H} {r1 : Int32} {v2 : Nat} {n3 : Nat} (q0 : xm_V X P d 228 [.int l1] h (some (.int r0)) h0) (q1 : r0 = (0 : Int32)) (q2 : xm_V X P d 224 [.int l1] h0 (some (.int r1)) h1) (q3 : X.1[l0]? = some (.inr 10)) (q4 : h1.2.2 l0 1 = some v2) (q5 : X.1[v2]? = some (.inl (0, n3))) (q6 : 14 < n3) (q7 : ¬ (r1 = h1.1 v2 14)) : xm_E X P d co_X11_isAsWished 0 [some (.ref l0), some (.int l1)] [] h (some (.int (0 : Int32))) h1 := by
  refine xm_E_s r_X11_isAsWished_0 rfl rfl ?_
  refine xm_E_cs [.int l1] [] r_X11_isAsWished_1 rfl rfl rfl (Nat.le_of_ble_eq_true rfl) rfl q0 ?_
  refine xm_E_s r_X11_isAsWished_2 rfl rfl ?_
  refine xm_E_t q1 ?_
  refine xm_E_s r_X11_isAsWished_3 rfl rfl ?_
  refine xm_E_cs [.int l1] [] r_X11_isAsWished_4 rfl rfl rfl (Nat.le_of_ble_eq_true rfl) rfl q2 ?_
  refine xm_E_s r_X11_isAsWished_5 rfl rfl ?_
  refine xm_E_s r_X11_isAsWished_6 rfl (xm_T_gr rfl q3 rfl rfl q4) ?_
  refine xm_E_s r_X11_isAsWished_7 rfl rfl ?_
  refine xm_E_s r_X11_isAsWished_8 rfl (xm_T_iald rfl q5 (by decide) (fun e => e.elim (fun e => absurd e (by decide)) (fun e => Nat.not_le.mpr q6 e))) ?_
  refine xm_E_s r_X11_isAsWished_9 rfl rfl ?_
  refine xm_E_f q7 ?_
  refine xm_E_s r_X11_isAsWished_17 rfl rfl ?_
  exact xm_E_iret r_X11_isAsWished_18 rfl rfl
theorem p_X11_isAsWished_0_9 {X : xm_X} {P : List xm_M} {d : Nat} {h : xm_H} {l0 : Nat} {l1 : Int32} {h0 : xm_H} {r0 : Int32} (q0 : xm_V X P d 228 [.int l1] h (some (.int r0)) h0) (q1 : ¬ (r0 = (0 : Int32))) : xm_E X P d co_X11_isAsWished 0 [some (.ref l0), some (.int l1)] [] h (some (.int (0 : Int32))) h0 := by
  refine xm_E_s r_X11_isAsWished_0 rfl rfl ?_
  refine xm_E_cs [.int l1] [] r_X11_isAsWished_1 rfl rfl rfl (Nat.le_of_ble_eq_true rfl) rfl q0 ?_
  refine xm_E_s r_X11_isAsWished_2 rfl rfl ?_
  refine xm_E_f q1 ?_
  refine xm_E_s r_X11_isAsWished_17 rfl rfl ?_
  exact xm_E_iret r_X11_isAsWished_18 rfl rfl
theorem r_X11_step_0 : co_X11_step[0]? = some ((0, .aload_n 0, 0, 0, 0, 0, 0, 0, []) : xm_I) := rfl
theorem r_X11_step_1 : co_X11_step[1]? = some ((1, .invokevirtual 420, 1802, 258, 1, 10, 0, 0, []) : xm_I) := rfl
theorem r_X11_step_2 : co_X11_step[2]? = some ((4, .ifCond .ne 6, 0, 0, 5, 0, 0, 0, []) : xm_I) := rfl
theorem r_X11_step_3 : co_X11_step[3]? = some ((7, .bipush (-2), 0, 0, 0, 0, (-2), 0, []) : xm_I) := rfl
theorem r_X11_step_4 : co_X11_step[4]? = some ((9, .ireturn, 0, 0, 0, 0, 0, 0, []) : xm_I) := rfl
theorem r_X11_step_5 : co_X11_step[5]? = some ((10, .aload_n 0, 0, 0, 0, 0, 0, 0, []) : xm_I) := rfl
theorem r_X11_step_6 : co_X11_step[6]? = some ((11, .aload_n 0, 0, 0, 0, 0, 0, 0, []) : xm_I) := rfl
theorem r_X11_step_7 : co_X11_step[7]? = some ((12, .getfield 9, 1381, 10, 1, 2, 0, 0, []) : xm_I) := rfl
theorem r_X11_step_8 : co_X11_step[8]? = some ((15, .iconst 3, 0, 0, 0, 0, 3, 0, []) : xm_I) := rfl
theorem r_X11_step_9 : co_X11_step[9]? = some ((16, .iaload, 0, 0, 0, 0, 0, 0, []) : xm_I) := rfl
theorem r_X11_step_10 : co_X11_step[10]? = some ((17, .iconst 0, 0, 0, 0, 0, 0, 0, []) : xm_I) := rfl
theorem r_X11_step_11 : co_X11_step[11]? = some ((18, .iconst (-1), 0, 0, 0, 0, (-1), 0, []) : xm_I) := rfl
theorem r_X11_step_12 : co_X11_step[12]? = some ((19, .iconst 0, 0, 0, 0, 0, 0, 0, []) : xm_I) := rfl
theorem r_X11_step_13 : co_X11_step[13]? = some ((20, .invokevirtual 423, 1810, 260, 5, 10, 0, 0, []) : xm_I) := rfl
theorem r_X11_step_14 : co_X11_step[14]? = some ((23, .pop, 0, 0, 0, 0, 0, 0, []) : xm_I) := rfl
theorem r_X11_step_15 : co_X11_step[15]? = some ((24, .aload_n 0, 0, 0, 0, 0, 0, 0, []) : xm_I) := rfl
theorem r_X11_step_16 : co_X11_step[16]? = some ((25, .iload_n 1, 0, 0, 0, 0, 0, 0, []) : xm_I) := rfl
theorem r_X11_step_17 : co_X11_step[17]? = some ((26, .invokevirtual 427, 1847, 269, 2, 10, 0, 0, []) : xm_I) := rfl
theorem r_X11_step_18 : co_X11_step[18]? = some ((29, .ireturn, 0, 0, 0, 0, 0, 0, []) : xm_I) := rfl
theorem p_X11_step_0_0 {X : xm_X} {P : List xm_M} {d : Nat} {h : xm_H} {l0 : Nat} {l1 : Int32} {h0 : xm_H} {r0 : Int32} (q0 : xm_V X P d 258 [.ref l0] h (some (.int r0)) h0) (q1 : X.1[l0]? = some (.inr 10)) (q2 : r0 = (0 : Int32)) : xm_E X P d co_X11_step 0 [some (.ref l0), some (.int l1)] [] h (some (.int (-2 : Int32))) h0 := by
  refine xm_E_s r_X11_step_0 rfl rfl ?_
  refine xm_E_cv [.ref l0] [] r_X11_step_1 rfl rfl (Nat.le_of_ble_eq_true rfl) (xm_rc q1 (by decide)) rfl q0 ?_
  refine xm_E_s r_X11_step_2 rfl rfl ?_
  refine xm_E_t q2 ?_
  refine xm_E_s r_X11_step_3 rfl rfl ?_
  exact xm_E_iret r_X11_step_4 rfl rfl
theorem p_X11_step_0_1 {X : xm_X} {P : List xm_M} {d : Nat} {h : xm_H} {l0 : Nat} {l1 : Int32} {h0 : xm_H} {r0 : Int32} {v1 : Nat} {n2 : Nat} {h3 : xm_H} {r3 : Int32} {h4 : xm_H} {r4 : Int32} (q0 : xm_V X P d 258 [.ref l0] h (some (.int r0)) h0) (q1 : X.1[l0]? = some (.inr 10)) (q2 : ¬ (r0 = (0 : Int32))) (q3 : h0.2.2 l0 1 = some v1) (q4 : X.1[v1]? = some (.inl (0, n2))) (q5 : 3 < n2) (q6 : xm_V X P d 260 [.ref l0, .int (h0.1 v1 3), .int (0 : Int32), .int (-1 : Int32), .int (0 : Int32)] h0 (some (.int r3)) h3) (q7 : xm_V X P d 269 [.ref l0, .int l1] h3 (some (.int r4)) h4) : xm_E X P d co_X11_step 0 [some (.ref l0), some (.int l1)] [] h (some (.int r4)) h4 := by
  refine xm_E_s r_X11_step_0 rfl rfl ?_
  refine xm_E_cv [.ref l0] [] r_X11_step_1 rfl rfl (Nat.le_of_ble_eq_true rfl) (xm_rc q1 (by decide)) rfl q0 ?_
  refine xm_E_s r_X11_step_2 rfl rfl ?_
  refine xm_E_f q2 ?_
  refine xm_E_s r_X11_step_5 rfl rfl ?_
  refine xm_E_s r_X11_step_6 rfl rfl ?_
  refine xm_E_s r_X11_step_7 rfl (xm_T_gr rfl q1 rfl rfl q3) ?_
  refine xm_E_s r_X11_step_8 rfl rfl ?_
  refine xm_E_s r_X11_step_9 rfl (xm_T_iald rfl q4 (by decide) (fun e => e.elim (fun e => absurd e (by decide)) (fun e => Nat.not_le.mpr q5 e))) ?_
  refine xm_E_s r_X11_step_10 rfl rfl ?_
  refine xm_E_s r_X11_step_11 rfl rfl ?_
  refine xm_E_s r_X11_step_12 rfl rfl ?_
  refine xm_E_cv [.ref l0, .int (h0.1 v1 3), .int (0 : Int32), .int (-1 : Int32), .int (0 : Int32)] [] r_X11_step_13 rfl rfl (Nat.le_of_ble_eq_true rfl) (xm_rc q1 (by decide)) rfl q6 ?_
  refine xm_E_s r_X11_step_14 rfl rfl ?_
  refine xm_E_s r_X11_step_15 rfl rfl ?_
  refine xm_E_s r_X11_step_16 rfl rfl ?_
  refine xm_E_cv [.ref l0, .int l1] [] r_X11_step_17 rfl rfl (Nat.le_of_ble_eq_true rfl) (xm_rc q1 (by decide)) rfl q7 ?_
  exact xm_E_iret r_X11_step_18 rfl rfl
theorem r_X11_chosenAt_0 : co_X11_chosenAt[0]? = some ((0, .aload_n 0, 0, 0, 0, 0, 0, 0, []) : xm_I) := rfl
theorem r_X11_chosenAt_1 : co_X11_chosenAt[1]? = some ((1, .invokevirtual 408, 1835, 266, 1, 10, 0, 0, []) : xm_I) := rfl
theorem r_X11_chosenAt_2 : co_X11_chosenAt[2]? = some ((4, .istore_n 2, 0, 0, 0, 0, 0, 0, []) : xm_I) := rfl
theorem r_X11_chosenAt_3 : co_X11_chosenAt[3]? = some ((5, .iload_n 2, 0, 0, 0, 0, 0, 0, []) : xm_I) := rfl
theorem r_X11_chosenAt_4 : co_X11_chosenAt[4]? = some ((6, .ldc_w 386, 1818, 0, 0, 0, 1000000000, 0, []) : xm_I) := rfl
theorem r_X11_chosenAt_5 : co_X11_chosenAt[5]? = some ((9, .if_icmp .eq 7, 0, 0, 8, 0, 0, 0, []) : xm_I) := rfl
theorem r_X11_chosenAt_6 : co_X11_chosenAt[6]? = some ((12, .iload_n 1, 0, 0, 0, 0, 0, 0, []) : xm_I) := rfl
theorem r_X11_chosenAt_7 : co_X11_chosenAt[7]? = some ((13, .ifCond .ge 5, 0, 0, 10, 0, 0, 0, []) : xm_I) := rfl
theorem r_X11_chosenAt_8 : co_X11_chosenAt[8]? = some ((16, .iconst (-1), 0, 0, 0, 0, (-1), 0, []) : xm_I) := rfl
theorem r_X11_chosenAt_9 : co_X11_chosenAt[9]? = some ((17, .ireturn, 0, 0, 0, 0, 0, 0, []) : xm_I) := rfl
theorem r_X11_chosenAt_10 : co_X11_chosenAt[10]? = some ((18, .iconst 0, 0, 0, 0, 0, 0, 0, []) : xm_I) := rfl
theorem r_X11_chosenAt_11 : co_X11_chosenAt[11]? = some ((19, .istore_n 3, 0, 0, 0, 0, 0, 0, []) : xm_I) := rfl
theorem r_X11_chosenAt_12 : co_X11_chosenAt[12]? = some ((20, .iload_n 3, 0, 0, 0, 0, 0, 0, []) : xm_I) := rfl
theorem r_X11_chosenAt_13 : co_X11_chosenAt[13]? = some ((21, .aload_n 0, 0, 0, 0, 0, 0, 0, []) : xm_I) := rfl
theorem r_X11_chosenAt_14 : co_X11_chosenAt[14]? = some ((22, .getfield 387, 1403, 10, 23, 0, 0, 0, []) : xm_I) := rfl
theorem r_X11_chosenAt_15 : co_X11_chosenAt[15]? = some ((25, .if_icmp .ge 53, 0, 0, 44, 0, 0, 0, []) : xm_I) := rfl
theorem r_X11_chosenAt_16 : co_X11_chosenAt[16]? = some ((28, .aload_n 0, 0, 0, 0, 0, 0, 0, []) : xm_I) := rfl
theorem r_X11_chosenAt_17 : co_X11_chosenAt[17]? = some ((29, .getfield 38, 1401, 10, 21, 2, 0, 0, []) : xm_I) := rfl
theorem r_X11_chosenAt_18 : co_X11_chosenAt[18]? = some ((32, .aload_n 0, 0, 0, 0, 0, 0, 0, []) : xm_I) := rfl
theorem r_X11_chosenAt_19 : co_X11_chosenAt[19]? = some ((33, .getfield 41, 1402, 10, 22, 2, 0, 0, []) : xm_I) := rfl
theorem r_X11_chosenAt_20 : co_X11_chosenAt[20]? = some ((36, .iload_n 3, 0, 0, 0, 0, 0, 0, []) : xm_I) := rfl
theorem r_X11_chosenAt_21 : co_X11_chosenAt[21]? = some ((37, .iaload, 0, 0, 0, 0, 0, 0, []) : xm_I) := rfl
theorem r_X11_chosenAt_22 : co_X11_chosenAt[22]? = some ((38, .aload_n 0, 0, 0, 0, 0, 0, 0, []) : xm_I) := rfl
theorem r_X11_chosenAt_23 : co_X11_chosenAt[23]? = some ((39, .aload_n 0, 0, 0, 0, 0, 0, 0, []) : xm_I) := rfl
theorem r_X11_chosenAt_24 : co_X11_chosenAt[24]? = some ((40, .getfield 41, 1402, 10, 22, 2, 0, 0, []) : xm_I) := rfl
theorem r_X11_chosenAt_25 : co_X11_chosenAt[25]? = some ((43, .iload_n 3, 0, 0, 0, 0, 0, 0, []) : xm_I) := rfl
theorem r_X11_chosenAt_26 : co_X11_chosenAt[26]? = some ((44, .iaload, 0, 0, 0, 0, 0, 0, []) : xm_I) := rfl
theorem r_X11_chosenAt_27 : co_X11_chosenAt[27]? = some ((45, .invokevirtual 402, 1839, 267, 2, 10, 0, 0, []) : xm_I) := rfl
theorem r_X11_chosenAt_28 : co_X11_chosenAt[28]? = some ((48, .ifCond .eq 22, 0, 0, 40, 0, 0, 0, []) : xm_I) := rfl
theorem r_X11_chosenAt_29 : co_X11_chosenAt[29]? = some ((51, .aload_n 0, 0, 0, 0, 0, 0, 0, []) : xm_I) := rfl
theorem r_X11_chosenAt_30 : co_X11_chosenAt[30]? = some ((52, .getfield 35, 1400, 10, 20, 2, 0, 0, []) : xm_I) := rfl
theorem r_X11_chosenAt_31 : co_X11_chosenAt[31]? = some ((55, .aload_n 0, 0, 0, 0, 0, 0, 0, []) : xm_I) := rfl
theorem r_X11_chosenAt_32 : co_X11_chosenAt[32]? = some ((56, .getfield 41, 1402, 10, 22, 2, 0, 0, []) : xm_I) := rfl
theorem r_X11_chosenAt_33 : co_X11_chosenAt[33]? = some ((59, .iload_n 3, 0, 0, 0, 0, 0, 0, []) : xm_I) := rfl
theorem r_X11_chosenAt_34 : co_X11_chosenAt[34]? = some ((60, .iaload, 0, 0, 0, 0, 0, 0, []) : xm_I) := rfl
theorem r_X11_chosenAt_35 : co_X11_chosenAt[35]? = some ((61, .iaload, 0, 0, 0, 0, 0, 0, []) : xm_I) := rfl
theorem r_X11_chosenAt_36 : co_X11_chosenAt[36]? = some ((62, .iload_n 2, 0, 0, 0, 0, 0, 0, []) : xm_I) := rfl
theorem r_X11_chosenAt_37 : co_X11_chosenAt[37]? = some ((63, .if_icmp .ne 7, 0, 0, 40, 0, 0, 0, []) : xm_I) := rfl
theorem r_X11_chosenAt_38 : co_X11_chosenAt[38]? = some ((66, .iconst 1, 0, 0, 0, 0, 1, 0, []) : xm_I) := rfl
theorem r_X11_chosenAt_39 : co_X11_chosenAt[39]? = some ((67, .goto 4, 0, 0, 41, 0, 0, 0, []) : xm_I) := rfl
theorem r_X11_chosenAt_40 : co_X11_chosenAt[40]? = some ((70, .iconst 0, 0, 0, 0, 0, 0, 0, []) : xm_I) := rfl
theorem r_X11_chosenAt_41 : co_X11_chosenAt[41]? = some ((71, .bastore, 0, 0, 0, 0, 0, 0, []) : xm_I) := rfl
theorem r_X11_chosenAt_42 : co_X11_chosenAt[42]? = some ((72, .iinc 3 1, 0, 0, 0, 0, 1, 0, []) : xm_I) := rfl
theorem r_X11_chosenAt_43 : co_X11_chosenAt[43]? = some ((75, .goto (-55), 0, 0, 12, 0, 0, 0, []) : xm_I) := rfl
theorem r_X11_chosenAt_44 : co_X11_chosenAt[44]? = some ((78, .iconst 1, 0, 0, 0, 0, 1, 0, []) : xm_I) := rfl
theorem r_X11_chosenAt_45 : co_X11_chosenAt[45]? = some ((79, .istore_n 3, 0, 0, 0, 0, 0, 0, []) : xm_I) := rfl
theorem r_X11_chosenAt_46 : co_X11_chosenAt[46]? = some ((80, .iload_n 3, 0, 0, 0, 0, 0, 0, []) : xm_I) := rfl
theorem r_X11_chosenAt_47 : co_X11_chosenAt[47]? = some ((81, .ifCond .eq 89, 0, 0, 94, 0, 0, 0, []) : xm_I) := rfl
theorem r_X11_chosenAt_48 : co_X11_chosenAt[48]? = some ((84, .iconst 0, 0, 0, 0, 0, 0, 0, []) : xm_I) := rfl
theorem r_X11_chosenAt_49 : co_X11_chosenAt[49]? = some ((85, .istore_n 3, 0, 0, 0, 0, 0, 0, []) : xm_I) := rfl
theorem r_X11_chosenAt_50 : co_X11_chosenAt[50]? = some ((86, .iconst 0, 0, 0, 0, 0, 0, 0, []) : xm_I) := rfl
theorem r_X11_chosenAt_51 : co_X11_chosenAt[51]? = some ((87, .istore 4, 0, 0, 0, 0, 0, 0, []) : xm_I) := rfl
theorem r_X11_chosenAt_52 : co_X11_chosenAt[52]? = some ((89, .iload 4, 0, 0, 0, 0, 0, 0, []) : xm_I) := rfl
theorem r_X11_chosenAt_53 : co_X11_chosenAt[53]? = some ((91, .aload_n 0, 0, 0, 0, 0, 0, 0, []) : xm_I) := rfl
theorem r_X11_chosenAt_54 : co_X11_chosenAt[54]? = some ((92, .getfield 387, 1403, 10, 23, 0, 0, 0, []) : xm_I) := rfl
theorem r_X11_chosenAt_55 : co_X11_chosenAt[55]? = some ((95, .if_icmp .ge 72, 0, 0, 93, 0, 0, 0, []) : xm_I) := rfl
theorem r_X11_chosenAt_56 : co_X11_chosenAt[56]? = some ((98, .aload_n 0, 0, 0, 0, 0, 0, 0, []) : xm_I) := rfl
theorem r_X11_chosenAt_57 : co_X11_chosenAt[57]? = some ((99, .getfield 38, 1401, 10, 21, 2, 0, 0, []) : xm_I) := rfl
theorem r_X11_chosenAt_58 : co_X11_chosenAt[58]? = some ((102, .aload_n 0, 0, 0, 0, 0, 0, 0, []) : xm_I) := rfl
theorem r_X11_chosenAt_59 : co_X11_chosenAt[59]? = some ((103, .getfield 41, 1402, 10, 22, 2, 0, 0, []) : xm_I) := rfl
theorem r_X11_chosenAt_60 : co_X11_chosenAt[60]? = some ((106, .iload 4, 0, 0, 0, 0, 0, 0, []) : xm_I) := rfl
theorem r_X11_chosenAt_61 : co_X11_chosenAt[61]? = some ((108, .iaload, 0, 0, 0, 0, 0, 0, []) : xm_I) := rfl
theorem r_X11_chosenAt_62 : co_X11_chosenAt[62]? = some ((109, .baload, 0, 0, 0, 0, 0, 0, []) : xm_I) := rfl
theorem r_X11_chosenAt_63 : co_X11_chosenAt[63]? = some ((110, .ifCond .ne 51, 0, 0, 91, 0, 0, 0, []) : xm_I) := rfl
theorem r_X11_chosenAt_64 : co_X11_chosenAt[64]? = some ((113, .aload_n 0, 0, 0, 0, 0, 0, 0, []) : xm_I) := rfl
theorem r_X11_chosenAt_65 : co_X11_chosenAt[65]? = some ((114, .getfield 35, 1400, 10, 20, 2, 0, 0, []) : xm_I) := rfl
theorem r_X11_chosenAt_66 : co_X11_chosenAt[66]? = some ((117, .aload_n 0, 0, 0, 0, 0, 0, 0, []) : xm_I) := rfl
theorem r_X11_chosenAt_67 : co_X11_chosenAt[67]? = some ((118, .getfield 41, 1402, 10, 22, 2, 0, 0, []) : xm_I) := rfl
theorem r_X11_chosenAt_68 : co_X11_chosenAt[68]? = some ((121, .iload 4, 0, 0, 0, 0, 0, 0, []) : xm_I) := rfl
theorem r_X11_chosenAt_69 : co_X11_chosenAt[69]? = some ((123, .iaload, 0, 0, 0, 0, 0, 0, []) : xm_I) := rfl
theorem r_X11_chosenAt_70 : co_X11_chosenAt[70]? = some ((124, .iaload, 0, 0, 0, 0, 0, 0, []) : xm_I) := rfl
theorem r_X11_chosenAt_71 : co_X11_chosenAt[71]? = some ((125, .iload_n 2, 0, 0, 0, 0, 0, 0, []) : xm_I) := rfl
theorem r_X11_chosenAt_72 : co_X11_chosenAt[72]? = some ((126, .if_icmp .ge 35, 0, 0, 91, 0, 0, 0, []) : xm_I) := rfl
theorem r_X11_chosenAt_73 : co_X11_chosenAt[73]? = some ((129, .aload_n 0, 0, 0, 0, 0, 0, 0, []) : xm_I) := rfl
theorem r_X11_chosenAt_74 : co_X11_chosenAt[74]? = some ((130, .aload_n 0, 0, 0, 0, 0, 0, 0, []) : xm_I) := rfl
theorem r_X11_chosenAt_75 : co_X11_chosenAt[75]? = some ((131, .getfield 41, 1402, 10, 22, 2, 0, 0, []) : xm_I) := rfl
theorem r_X11_chosenAt_76 : co_X11_chosenAt[76]? = some ((134, .iload 4, 0, 0, 0, 0, 0, 0, []) : xm_I) := rfl
theorem r_X11_chosenAt_77 : co_X11_chosenAt[77]? = some ((136, .iaload, 0, 0, 0, 0, 0, 0, []) : xm_I) := rfl
theorem r_X11_chosenAt_78 : co_X11_chosenAt[78]? = some ((137, .invokevirtual 414, 1851, 270, 2, 10, 0, 0, []) : xm_I) := rfl
theorem r_X11_chosenAt_79 : co_X11_chosenAt[79]? = some ((140, .ifCond .ne 6, 0, 0, 81, 0, 0, 0, []) : xm_I) := rfl
theorem r_X11_chosenAt_80 : co_X11_chosenAt[80]? = some ((143, .goto 18, 0, 0, 91, 0, 0, 0, []) : xm_I) := rfl
theorem r_X11_chosenAt_81 : co_X11_chosenAt[81]? = some ((146, .aload_n 0, 0, 0, 0, 0, 0, 0, []) : xm_I) := rfl
theorem r_X11_chosenAt_82 : co_X11_chosenAt[82]? = some ((147, .getfield 38, 1401, 10, 21, 2, 0, 0, []) : xm_I) := rfl
theorem r_X11_chosenAt_83 : co_X11_chosenAt[83]? = some ((150, .aload_n 0, 0, 0, 0, 0, 0, 0, []) : xm_I) := rfl
theorem r_X11_chosenAt_84 : co_X11_chosenAt[84]? = some ((151, .getfield 41, 1402, 10, 22, 2, 0, 0, []) : xm_I) := rfl
theorem r_X11_chosenAt_85 : co_X11_chosenAt[85]? = some ((154, .iload 4, 0, 0, 0, 0, 0, 0, []) : xm_I) := rfl
theorem r_X11_chosenAt_86 : co_X11_chosenAt[86]? = some ((156, .iaload, 0, 0, 0, 0, 0, 0, []) : xm_I) := rfl
theorem r_X11_chosenAt_87 : co_X11_chosenAt[87]? = some ((157, .iconst 1, 0, 0, 0, 0, 1, 0, []) : xm_I) := rfl
theorem r_X11_chosenAt_88 : co_X11_chosenAt[88]? = some ((158, .bastore, 0, 0, 0, 0, 0, 0, []) : xm_I) := rfl
theorem r_X11_chosenAt_89 : co_X11_chosenAt[89]? = some ((159, .iconst 1, 0, 0, 0, 0, 1, 0, []) : xm_I) := rfl
theorem r_X11_chosenAt_90 : co_X11_chosenAt[90]? = some ((160, .istore_n 3, 0, 0, 0, 0, 0, 0, []) : xm_I) := rfl
theorem r_X11_chosenAt_91 : co_X11_chosenAt[91]? = some ((161, .iinc 4 1, 0, 0, 0, 0, 1, 0, []) : xm_I) := rfl
theorem r_X11_chosenAt_92 : co_X11_chosenAt[92]? = some ((164, .goto (-75), 0, 0, 52, 0, 0, 0, []) : xm_I) := rfl
theorem r_X11_chosenAt_93 : co_X11_chosenAt[93]? = some ((167, .goto (-87), 0, 0, 46, 0, 0, 0, []) : xm_I) := rfl
theorem r_X11_chosenAt_94 : co_X11_chosenAt[94]? = some ((170, .aload_n 0, 0, 0, 0, 0, 0, 0, []) : xm_I) := rfl
theorem r_X11_chosenAt_95 : co_X11_chosenAt[95]? = some ((171, .getfield 41, 1402, 10, 22, 2, 0, 0, []) : xm_I) := rfl
theorem r_X11_chosenAt_96 : co_X11_chosenAt[96]? = some ((174, .iconst 0, 0, 0, 0, 0, 0, 0, []) : xm_I) := rfl
theorem r_X11_chosenAt_97 : co_X11_chosenAt[97]? = some ((175, .iaload, 0, 0, 0, 0, 0, 0, []) : xm_I) := rfl
theorem r_X11_chosenAt_98 : co_X11_chosenAt[98]? = some ((176, .istore 4, 0, 0, 0, 0, 0, 0, []) : xm_I) := rfl
theorem r_X11_chosenAt_99 : co_X11_chosenAt[99]? = some ((178, .iconst 0, 0, 0, 0, 0, 0, 0, []) : xm_I) := rfl
theorem r_X11_chosenAt_100 : co_X11_chosenAt[100]? = some ((179, .istore 5, 0, 0, 0, 0, 0, 0, []) : xm_I) := rfl
theorem r_X11_chosenAt_101 : co_X11_chosenAt[101]? = some ((181, .aload_n 0, 0, 0, 0, 0, 0, 0, []) : xm_I) := rfl
theorem r_X11_chosenAt_102 : co_X11_chosenAt[102]? = some ((182, .getfield 35, 1400, 10, 20, 2, 0, 0, []) : xm_I) := rfl
theorem r_X11_chosenAt_103 : co_X11_chosenAt[103]? = some ((185, .iload 4, 0, 0, 0, 0, 0, 0, []) : xm_I) := rfl
theorem r_X11_chosenAt_104 : co_X11_chosenAt[104]? = some ((187, .iaload, 0, 0, 0, 0, 0, 0, []) : xm_I) := rfl
theorem r_X11_chosenAt_105 : co_X11_chosenAt[105]? = some ((188, .iload_n 2, 0, 0, 0, 0, 0, 0, []) : xm_I) := rfl
theorem r_X11_chosenAt_106 : co_X11_chosenAt[106]? = some ((189, .if_icmp .ge 48, 0, 0, 128, 0, 0, 0, []) : xm_I) := rfl
theorem r_X11_chosenAt_107 : co_X11_chosenAt[107]? = some ((192, .iconst 0, 0, 0, 0, 0, 0, 0, []) : xm_I) := rfl
theorem r_X11_chosenAt_108 : co_X11_chosenAt[108]? = some ((193, .istore 6, 0, 0, 0, 0, 0, 0, []) : xm_I) := rfl
theorem r_X11_chosenAt_109 : co_X11_chosenAt[109]? = some ((195, .aload_n 0, 0, 0, 0, 0, 0, 0, []) : xm_I) := rfl
theorem r_X11_chosenAt_110 : co_X11_chosenAt[110]? = some ((196, .iload 4, 0, 0, 0, 0, 0, 0, []) : xm_I) := rfl
theorem r_X11_chosenAt_111 : co_X11_chosenAt[111]? = some ((198, .iload 6, 0, 0, 0, 0, 0, 0, []) : xm_I) := rfl
theorem r_X11_chosenAt_112 : co_X11_chosenAt[112]? = some ((200, .invokevirtual 411, 1855, 271, 3, 10, 0, 0, []) : xm_I) := rfl
theorem r_X11_chosenAt_113 : co_X11_chosenAt[113]? = some ((203, .ifCond .ne 9, 0, 0, 116, 0, 0, 0, []) : xm_I) := rfl
theorem r_X11_chosenAt_114 : co_X11_chosenAt[114]? = some ((206, .iinc 6 1, 0, 0, 0, 0, 1, 0, []) : xm_I) := rfl
theorem r_X11_chosenAt_115 : co_X11_chosenAt[115]? = some ((209, .goto (-14), 0, 0, 109, 0, 0, 0, []) : xm_I) := rfl
theorem r_X11_chosenAt_116 : co_X11_chosenAt[116]? = some ((212, .iload 5, 0, 0, 0, 0, 0, 0, []) : xm_I) := rfl
theorem r_X11_chosenAt_117 : co_X11_chosenAt[117]? = some ((214, .iload_n 1, 0, 0, 0, 0, 0, 0, []) : xm_I) := rfl
theorem r_X11_chosenAt_118 : co_X11_chosenAt[118]? = some ((215, .if_icmp .ne 6, 0, 0, 121, 0, 0, 0, []) : xm_I) := rfl
theorem r_X11_chosenAt_119 : co_X11_chosenAt[119]? = some ((218, .iload 6, 0, 0, 0, 0, 0, 0, []) : xm_I) := rfl
theorem r_X11_chosenAt_120 : co_X11_chosenAt[120]? = some ((220, .ireturn, 0, 0, 0, 0, 0, 0, []) : xm_I) := rfl
theorem r_X11_chosenAt_121 : co_X11_chosenAt[121]? = some ((221, .aload_n 0, 0, 0, 0, 0, 0, 0, []) : xm_I) := rfl
theorem r_X11_chosenAt_122 : co_X11_chosenAt[122]? = some ((222, .iload 4, 0, 0, 0, 0, 0, 0, []) : xm_I) := rfl
theorem r_X11_chosenAt_123 : co_X11_chosenAt[123]? = some ((224, .iload 6, 0, 0, 0, 0, 0, 0, []) : xm_I) := rfl
theorem r_X11_chosenAt_124 : co_X11_chosenAt[124]? = some ((226, .invokevirtual 393, 1823, 263, 3, 10, 0, 0, []) : xm_I) := rfl
theorem r_X11_chosenAt_125 : co_X11_chosenAt[125]? = some ((229, .istore 4, 0, 0, 0, 0, 0, 0, []) : xm_I) := rfl
theorem r_X11_chosenAt_126 : co_X11_chosenAt[126]? = some ((231, .iinc 5 1, 0, 0, 0, 0, 1, 0, []) : xm_I) := rfl
theorem r_X11_chosenAt_127 : co_X11_chosenAt[127]? = some ((234, .goto (-53), 0, 0, 101, 0, 0, 0, []) : xm_I) := rfl
theorem r_X11_chosenAt_128 : co_X11_chosenAt[128]? = some ((237, .iconst (-1), 0, 0, 0, 0, (-1), 0, []) : xm_I) := rfl
theorem r_X11_chosenAt_129 : co_X11_chosenAt[129]? = some ((238, .ireturn, 0, 0, 0, 0, 0, 0, []) : xm_I) := rfl
theorem p_X11_chosenAt_0_0 {X : xm_X} {P : List xm_M} {d : Nat} {h : xm_H} {l0 : Nat} {l1 : Int32} {h0 : xm_H} {r0 : Int32} (q0 : xm_V X P d 266 [.ref l0] h (some (.int r0)) h0) (q1 : X.1[l0]? = some (.inr 10)) (q2 : r0 = (1000000000 : Int32)) : xm_E X P d co_X11_chosenAt 0 [some (.ref l0), some (.int l1), none, none, none, none, none] [] h (some (.int (-1 : Int32))) h0 := by
  refine xm_E_s r_X11_chosenAt_0 rfl rfl ?_
  refine xm_E_cv [.ref l0] [] r_X11_chosenAt_1 rfl rfl (Nat.le_of_ble_eq_true rfl) (xm_rc q1 (by decide)) rfl q0 ?_
  refine xm_E_s (ls1 := [some (.ref l0), some (.int l1), some (.int r0), none, none, none, none]) r_X11_chosenAt_2 rfl rfl ?_
  refine xm_E_s r_X11_chosenAt_3 rfl rfl ?_
  refine xm_E_s r_X11_chosenAt_4 rfl rfl ?_
  refine xm_E_s r_X11_chosenAt_5 rfl rfl ?_
  refine xm_E_t q2 ?_
  refine xm_E_s r_X11_chosenAt_8 rfl rfl ?_
  exact xm_E_iret r_X11_chosenAt_9 rfl rfl
theorem p_X11_chosenAt_0_1 {X : xm_X} {P : List xm_M} {d : Nat} {h : xm_H} {l0 : Nat} {l1 : Int32} {h0 : xm_H} {r0 : Int32} {ro : Option Value} {ho : xm_H} (q0 : xm_V X P d 266 [.ref l0] h (some (.int r0)) h0) (q1 : X.1[l0]? = some (.inr 10)) (q2 : ¬ (r0 = (1000000000 : Int32))) (q3 : (0 : Int32) ≤ l1) (K : xm_E X P d co_X11_chosenAt 12 [some (.ref l0), some (.int l1), some (.int r0), some (.int (0 : Int32)), none, none, none] [] h0 ro ho) : xm_E X P d co_X11_chosenAt 0 [some (.ref l0), some (.int l1), none, none, none, none, none] [] h ro ho := by
  refine xm_E_s r_X11_chosenAt_0 rfl rfl ?_
  refine xm_E_cv [.ref l0] [] r_X11_chosenAt_1 rfl rfl (Nat.le_of_ble_eq_true rfl) (xm_rc q1 (by decide)) rfl q0 ?_
  refine xm_E_s (ls1 := [some (.ref l0), some (.int l1), some (.int r0), none, none, none, none]) r_X11_chosenAt_2 rfl rfl ?_
  refine xm_E_s r_X11_chosenAt_3 rfl rfl ?_
  refine xm_E_s r_X11_chosenAt_4 rfl rfl ?_
  refine xm_E_s r_X11_chosenAt_5 rfl rfl ?_
  refine xm_E_f q2 ?_
  refine xm_E_s r_X11_chosenAt_6 rfl rfl ?_
  refine xm_E_s r_X11_chosenAt_7 rfl rfl ?_
  refine xm_E_t q3 ?_
  refine xm_E_s r_X11_chosenAt_10 rfl rfl ?_
  refine xm_E_s (ls1 := [some (.ref l0), some (.int l1), some (.int r0), some (.int (0 : Int32)), none, none, none]) r_X11_chosenAt_11 rfl rfl ?_
  exact K
theorem p_X11_chosenAt_0_2 {X : xm_X} {P : List xm_M} {d : Nat} {h : xm_H} {l0 : Nat} {l1 : Int32} {h0 : xm_H} {r0 : Int32} (q0 : xm_V X P d 266 [.ref l0] h (some (.int r0)) h0) (q1 : X.1[l0]? = some (.inr 10)) (q2 : ¬ (r0 = (1000000000 : Int32))) (q3 : ¬ ((0 : Int32) ≤ l1)) : xm_E X P d co_X11_chosenAt 0 [some (.ref l0), some (.int l1), none, none, none, none, none] [] h (some (.int (-1 : Int32))) h0 := by
  refine xm_E_s r_X11_chosenAt_0 rfl rfl ?_
  refine xm_E_cv [.ref l0] [] r_X11_chosenAt_1 rfl rfl (Nat.le_of_ble_eq_true rfl) (xm_rc q1 (by decide)) rfl q0 ?_
  refine xm_E_s (ls1 := [some (.ref l0), some (.int l1), some (.int r0), none, none, none, none]) r_X11_chosenAt_2 rfl rfl ?_
  refine xm_E_s r_X11_chosenAt_3 rfl rfl ?_
  refine xm_E_s r_X11_chosenAt_4 rfl rfl ?_
  refine xm_E_s r_X11_chosenAt_5 rfl rfl ?_
  refine xm_E_f q2 ?_
  refine xm_E_s r_X11_chosenAt_6 rfl rfl ?_
  refine xm_E_s r_X11_chosenAt_7 rfl rfl ?_
  refine xm_E_f q3 ?_
  refine xm_E_s r_X11_chosenAt_8 rfl rfl ?_
  exact xm_E_iret r_X11_chosenAt_9 rfl rfl
theorem p_X11_chosenAt_12_0 {X : xm_X} {P : List xm_M} {d : Nat} {h : xm_H} {l0 : Nat} {l1 : Int32} {l2 : Int32} {l3 : Int32} {ro : Option Value} {ho : xm_H} (q0 : X.1[l0]? = some (.inr 10)) (q1 : h.1 l0 23 ≤ l3) (K : xm_E X P d co_X11_chosenAt 46 [some (.ref l0), some (.int l1), some (.int l2), some (.int (1 : Int32)), none, none, none] [] h ro ho) : xm_E X P d co_X11_chosenAt 12 [some (.ref l0), some (.int l1), some (.int l2), some (.int l3), none, none, none] [] h ro ho := by
  refine xm_E_s r_X11_chosenAt_12 rfl rfl ?_
  refine xm_E_s r_X11_chosenAt_13 rfl rfl ?_
  refine xm_E_s r_X11_chosenAt_14 rfl (xm_T_gi rfl q0 rfl (Or.inl rfl)) ?_
  refine xm_E_s r_X11_chosenAt_15 rfl rfl ?_
  refine xm_E_t q1 ?_
  refine xm_E_s r_X11_chosenAt_44 rfl rfl ?_
  refine xm_E_s (ls1 := [some (.ref l0), some (.int l1), some (.int l2), some (.int (1 : Int32)), none, none, none]) r_X11_chosenAt_45 rfl rfl ?_
  exact K
theorem p_X11_chosenAt_12_1 {X : xm_X} {P : List xm_M} {d : Nat} {h : xm_H} {l0 : Nat} {l1 : Int32} {l2 : Int32} {l3 : Int32} {v0 : Nat} {v1 : Nat} {n2 : Nat} {h3 : xm_H} {r3 : Int32} {n4 : Nat} {ro : Option Value} {ho : xm_H} (q0 : X.1[l0]? = some (.inr 10)) (q1 : ¬ (h.1 l0 23 ≤ l3)) (q2 : h.2.2 l0 21 = some v0) (q3 : h.2.2 l0 22 = some v1) (q4 : X.1[v1]? = some (.inl (0, n2))) (q5 : ¬ (l3 < 0 ∨ n2 ≤ l3.toNatClampNeg)) (q6 : xm_V X P d 267 [.ref l0, .int (h.1 v1 l3.toNatClampNeg)] h (some (.int r3)) h3) (q7 : r3 = (0 : Int32)) (q8 : X.1[v0]? = some (.inl (2, n4))) (q9 : ¬ (h.1 v1 l3.toNatClampNeg < 0 ∨ n4 ≤ (h.1 v1 l3.toNatClampNeg).toNatClampNeg)) (K : xm_E X P d co_X11_chosenAt 12 [some (.ref l0), some (.int l1), some (.int l2), some (.int (l3 + (1 : Int32))), none, none, none] [] (xm_si h3 v0 ((h.1 v1 l3.toNatClampNeg).toNatClampNeg) (vp_nar .boolean (0 : Int32))) ro ho) : xm_E X P d co_X11_chosenAt 12 [some (.ref l0), some (.int l1), some (.int l2), some (.int l3), none, none, none] [] h ro ho := by
  refine xm_E_s r_X11_chosenAt_12 rfl rfl ?_
  refine xm_E_s r_X11_chosenAt_13 rfl rfl ?_
  refine xm_E_s r_X11_chosenAt_14 rfl (xm_T_gi rfl q0 rfl (Or.inl rfl)) ?_
  refine xm_E_s r_X11_chosenAt_15 rfl rfl ?_
  refine xm_E_f q1 ?_
  refine xm_E_s r_X11_chosenAt_16 rfl rfl ?_
  refine xm_E_s r_X11_chosenAt_17 rfl (xm_T_gr rfl q0 rfl rfl q2) ?_
  refine xm_E_s r_X11_chosenAt_18 rfl rfl ?_
  refine xm_E_s r_X11_chosenAt_19 rfl (xm_T_gr rfl q0 rfl rfl q3) ?_
  refine xm_E_s r_X11_chosenAt_20 rfl rfl ?_
  refine xm_E_s r_X11_chosenAt_21 rfl (xm_T_iald rfl q4 (by decide) q5) ?_
  refine xm_E_s r_X11_chosenAt_22 rfl rfl ?_
  refine xm_E_s r_X11_chosenAt_23 rfl rfl ?_
  refine xm_E_s r_X11_chosenAt_24 rfl (xm_T_gr rfl q0 rfl rfl q3) ?_
  refine xm_E_s r_X11_chosenAt_25 rfl rfl ?_
  refine xm_E_s r_X11_chosenAt_26 rfl (xm_T_iald rfl q4 (by decide) q5) ?_
  refine xm_E_cv [.ref l0, .int (h.1 v1 l3.toNatClampNeg)] [.int (h.1 v1 l3.toNatClampNeg), .ref v0] r_X11_chosenAt_27 rfl rfl (Nat.le_of_ble_eq_true rfl) (xm_rc q0 (by decide)) rfl q6 ?_
  refine xm_E_s r_X11_chosenAt_28 rfl rfl ?_
  refine xm_E_t q7 ?_
  refine xm_E_s r_X11_chosenAt_40 rfl rfl ?_
  refine xm_E_s r_X11_chosenAt_41 rfl (xm_T_asz rfl q8 q9) ?_
  refine xm_E_s (ls1 := [some (.ref l0), some (.int l1), some (.int l2), some (.int (l3 + (1 : Int32))), none, none, none]) r_X11_chosenAt_42 rfl rfl ?_
  refine xm_E_s r_X11_chosenAt_43 rfl rfl ?_
  exact K
theorem p_X11_chosenAt_12_2 {X : xm_X} {P : List xm_M} {d : Nat} {h : xm_H} {l0 : Nat} {l1 : Int32} {l2 : Int32} {l3 : Int32} {v0 : Nat} {v1 : Nat} {n2 : Nat} {h3 : xm_H} {r3 : Int32} {v4 : Nat} {v5 : Nat} {n6 : Nat} {n7 : Nat} {n8 : Nat} {ro : Option Value} {ho : xm_H} (q0 : X.1[l0]? = some (.inr 10)) (q1 : ¬ (h.1 l0 23 ≤ l3)) (q2 : h.2.2 l0 21 = some v0) (q3 : h.2.2 l0 22 = some v1) (q4 : X.1[v1]? = some (.inl (0, n2))) (q5 : ¬ (l3 < 0 ∨ n2 ≤ l3.toNatClampNeg)) (q6 : xm_V X P d 267 [.ref l0, .int (h.1 v1 l3.toNatClampNeg)] h (some (.int r3)) h3) (q7 : ¬ (r3 = (0 : Int32))) (q8 : h3.2.2 l0 20 = some v4) (q9 : h3.2.2 l0 22 = some v5) (q10 : X.1[v5]? = some (.inl (0, n6))) (q11 : ¬ (l3 < 0 ∨ n6 ≤ l3.toNatClampNeg)) (q12 : X.1[v4]? = some (.inl (0, n7))) (q13 : ¬ (h3.1 v5 l3.toNatClampNeg < 0 ∨ n7 ≤ (h3.1 v5 l3.toNatClampNeg).toNatClampNeg)) (q14 : h3.1 v4 ((h3.1 v5 l3.toNatClampNeg).toNatClampNeg) = l2) (q15 : X.1[v0]? = some (.inl (2, n8))) (q16 : ¬ (h.1 v1 l3.toNatClampNeg < 0 ∨ n8 ≤ (h.1 v1 l3.toNatClampNeg).toNatClampNeg)) (K : xm_E X P d co_X11_chosenAt 12 [some (.ref l0), some (.int l1), some (.int l2), some (.int (l3 + (1 : Int32))), none, none, none] [] (xm_si h3 v0 ((h.1 v1 l3.toNatClampNeg).toNatClampNeg) (vp_nar .boolean (1 : Int32))) ro ho) : xm_E X P d co_X11_chosenAt 12 [some (.ref l0), some (.int l1), some (.int l2), some (.int l3), none, none, none] [] h ro ho := by
  refine xm_E_s r_X11_chosenAt_12 rfl rfl ?_
  refine xm_E_s r_X11_chosenAt_13 rfl rfl ?_
  refine xm_E_s r_X11_chosenAt_14 rfl (xm_T_gi rfl q0 rfl (Or.inl rfl)) ?_
  refine xm_E_s r_X11_chosenAt_15 rfl rfl ?_
  refine xm_E_f q1 ?_
  refine xm_E_s r_X11_chosenAt_16 rfl rfl ?_
  refine xm_E_s r_X11_chosenAt_17 rfl (xm_T_gr rfl q0 rfl rfl q2) ?_
  refine xm_E_s r_X11_chosenAt_18 rfl rfl ?_
  refine xm_E_s r_X11_chosenAt_19 rfl (xm_T_gr rfl q0 rfl rfl q3) ?_
  refine xm_E_s r_X11_chosenAt_20 rfl rfl ?_
  refine xm_E_s r_X11_chosenAt_21 rfl (xm_T_iald rfl q4 (by decide) q5) ?_
  refine xm_E_s r_X11_chosenAt_22 rfl rfl ?_
  refine xm_E_s r_X11_chosenAt_23 rfl rfl ?_
  refine xm_E_s r_X11_chosenAt_24 rfl (xm_T_gr rfl q0 rfl rfl q3) ?_
  refine xm_E_s r_X11_chosenAt_25 rfl rfl ?_
  refine xm_E_s r_X11_chosenAt_26 rfl (xm_T_iald rfl q4 (by decide) q5) ?_
  refine xm_E_cv [.ref l0, .int (h.1 v1 l3.toNatClampNeg)] [.int (h.1 v1 l3.toNatClampNeg), .ref v0] r_X11_chosenAt_27 rfl rfl (Nat.le_of_ble_eq_true rfl) (xm_rc q0 (by decide)) rfl q6 ?_
  refine xm_E_s r_X11_chosenAt_28 rfl rfl ?_
  refine xm_E_f q7 ?_
  refine xm_E_s r_X11_chosenAt_29 rfl rfl ?_
  refine xm_E_s r_X11_chosenAt_30 rfl (xm_T_gr rfl q0 rfl rfl q8) ?_
  refine xm_E_s r_X11_chosenAt_31 rfl rfl ?_
  refine xm_E_s r_X11_chosenAt_32 rfl (xm_T_gr rfl q0 rfl rfl q9) ?_
  refine xm_E_s r_X11_chosenAt_33 rfl rfl ?_
  refine xm_E_s r_X11_chosenAt_34 rfl (xm_T_iald rfl q10 (by decide) q11) ?_
  refine xm_E_s r_X11_chosenAt_35 rfl (xm_T_iald rfl q12 (by decide) q13) ?_
  refine xm_E_s r_X11_chosenAt_36 rfl rfl ?_
  refine xm_E_s r_X11_chosenAt_37 rfl rfl ?_
  refine xm_E_t q14 ?_
  refine xm_E_s r_X11_chosenAt_38 rfl rfl ?_
  refine xm_E_s r_X11_chosenAt_39 rfl rfl ?_
  refine xm_E_s r_X11_chosenAt_41 rfl (xm_T_asz rfl q15 q16) ?_
  refine xm_E_s (ls1 := [some (.ref l0), some (.int l1), some (.int l2), some (.int (l3 + (1 : Int32))), none, none, none]) r_X11_chosenAt_42 rfl rfl ?_
  refine xm_E_s r_X11_chosenAt_43 rfl rfl ?_
  exact K
theorem p_X11_chosenAt_12_3 {X : xm_X} {P : List xm_M} {d : Nat} {h : xm_H} {l0 : Nat} {l1 : Int32} {l2 : Int32} {l3 : Int32} {v0 : Nat} {v1 : Nat} {n2 : Nat} {h3 : xm_H} {r3 : Int32} {v4 : Nat} {v5 : Nat} {n6 : Nat} {n7 : Nat} {n8 : Nat} {ro : Option Value} {ho : xm_H} (q0 : X.1[l0]? = some (.inr 10)) (q1 : ¬ (h.1 l0 23 ≤ l3)) (q2 : h.2.2 l0 21 = some v0) (q3 : h.2.2 l0 22 = some v1) (q4 : X.1[v1]? = some (.inl (0, n2))) (q5 : ¬ (l3 < 0 ∨ n2 ≤ l3.toNatClampNeg)) (q6 : xm_V X P d 267 [.ref l0, .int (h.1 v1 l3.toNatClampNeg)] h (some (.int r3)) h3) (q7 : ¬ (r3 = (0 : Int32))) (q8 : h3.2.2 l0 20 = some v4) (q9 : h3.2.2 l0 22 = some v5) (q10 : X.1[v5]? = some (.inl (0, n6))) (q11 : ¬ (l3 < 0 ∨ n6 ≤ l3.toNatClampNeg)) (q12 : X.1[v4]? = some (.inl (0, n7))) (q13 : ¬ (h3.1 v5 l3.toNatClampNeg < 0 ∨ n7 ≤ (h3.1 v5 l3.toNatClampNeg).toNatClampNeg)) (q14 : ¬ (h3.1 v4 ((h3.1 v5 l3.toNatClampNeg).toNatClampNeg) = l2)) (q15 : X.1[v0]? = some (.inl (2, n8))) (q16 : ¬ (h.1 v1 l3.toNatClampNeg < 0 ∨ n8 ≤ (h.1 v1 l3.toNatClampNeg).toNatClampNeg)) (K : xm_E X P d co_X11_chosenAt 12 [some (.ref l0), some (.int l1), some (.int l2), some (.int (l3 + (1 : Int32))), none, none, none] [] (xm_si h3 v0 ((h.1 v1 l3.toNatClampNeg).toNatClampNeg) (vp_nar .boolean (0 : Int32))) ro ho) : xm_E X P d co_X11_chosenAt 12 [some (.ref l0), some (.int l1), some (.int l2), some (.int l3), none, none, none] [] h ro ho := by
  refine xm_E_s r_X11_chosenAt_12 rfl rfl ?_
  refine xm_E_s r_X11_chosenAt_13 rfl rfl ?_
  refine xm_E_s r_X11_chosenAt_14 rfl (xm_T_gi rfl q0 rfl (Or.inl rfl)) ?_
  refine xm_E_s r_X11_chosenAt_15 rfl rfl ?_
  refine xm_E_f q1 ?_
  refine xm_E_s r_X11_chosenAt_16 rfl rfl ?_
  refine xm_E_s r_X11_chosenAt_17 rfl (xm_T_gr rfl q0 rfl rfl q2) ?_
  refine xm_E_s r_X11_chosenAt_18 rfl rfl ?_
  refine xm_E_s r_X11_chosenAt_19 rfl (xm_T_gr rfl q0 rfl rfl q3) ?_
  refine xm_E_s r_X11_chosenAt_20 rfl rfl ?_
  refine xm_E_s r_X11_chosenAt_21 rfl (xm_T_iald rfl q4 (by decide) q5) ?_
  refine xm_E_s r_X11_chosenAt_22 rfl rfl ?_
  refine xm_E_s r_X11_chosenAt_23 rfl rfl ?_
  refine xm_E_s r_X11_chosenAt_24 rfl (xm_T_gr rfl q0 rfl rfl q3) ?_
  refine xm_E_s r_X11_chosenAt_25 rfl rfl ?_
  refine xm_E_s r_X11_chosenAt_26 rfl (xm_T_iald rfl q4 (by decide) q5) ?_
  refine xm_E_cv [.ref l0, .int (h.1 v1 l3.toNatClampNeg)] [.int (h.1 v1 l3.toNatClampNeg), .ref v0] r_X11_chosenAt_27 rfl rfl (Nat.le_of_ble_eq_true rfl) (xm_rc q0 (by decide)) rfl q6 ?_
  refine xm_E_s r_X11_chosenAt_28 rfl rfl ?_
  refine xm_E_f q7 ?_
  refine xm_E_s r_X11_chosenAt_29 rfl rfl ?_
  refine xm_E_s r_X11_chosenAt_30 rfl (xm_T_gr rfl q0 rfl rfl q8) ?_
  refine xm_E_s r_X11_chosenAt_31 rfl rfl ?_
  refine xm_E_s r_X11_chosenAt_32 rfl (xm_T_gr rfl q0 rfl rfl q9) ?_
  refine xm_E_s r_X11_chosenAt_33 rfl rfl ?_
  refine xm_E_s r_X11_chosenAt_34 rfl (xm_T_iald rfl q10 (by decide) q11) ?_
  refine xm_E_s r_X11_chosenAt_35 rfl (xm_T_iald rfl q12 (by decide) q13) ?_
  refine xm_E_s r_X11_chosenAt_36 rfl rfl ?_
  refine xm_E_s r_X11_chosenAt_37 rfl rfl ?_
  refine xm_E_f q14 ?_
  refine xm_E_s r_X11_chosenAt_40 rfl rfl ?_
  refine xm_E_s r_X11_chosenAt_41 rfl (xm_T_asz rfl q15 q16) ?_
  refine xm_E_s (ls1 := [some (.ref l0), some (.int l1), some (.int l2), some (.int (l3 + (1 : Int32))), none, none, none]) r_X11_chosenAt_42 rfl rfl ?_
  refine xm_E_s r_X11_chosenAt_43 rfl rfl ?_
  exact K
theorem p_X11_chosenAt_46_0 {X : xm_X} {P : List xm_M} {d : Nat} {h : xm_H} {l0 : Nat} {l1 : Int32} {l2 : Int32} {l3 : Int32} {l4 : Option Value} {v0 : Nat} {n1 : Nat} {ro : Option Value} {ho : xm_H} (q0 : l3 = (0 : Int32)) (q1 : X.1[l0]? = some (.inr 10)) (q2 : h.2.2 l0 22 = some v0) (q3 : X.1[v0]? = some (.inl (0, n1))) (q4 : 0 < n1) (K : xm_E X P d co_X11_chosenAt 101 [some (.ref l0), some (.int l1), some (.int l2), some (.int l3), some (.int (h.1 v0 0)), some (.int (0 : Int32)), none] [] h ro ho) : xm_E X P d co_X11_chosenAt 46 [some (.ref l0), some (.int l1), some (.int l2), some (.int l3), l4, none, none] [] h ro ho := by
  refine xm_E_s r_X11_chosenAt_46 rfl rfl ?_
  refine xm_E_s r_X11_chosenAt_47 rfl rfl ?_
  refine xm_E_t q0 ?_
  refine xm_E_s r_X11_chosenAt_94 rfl rfl ?_
  refine xm_E_s r_X11_chosenAt_95 rfl (xm_T_gr rfl q1 rfl rfl q2) ?_
  refine xm_E_s r_X11_chosenAt_96 rfl rfl ?_
  refine xm_E_s r_X11_chosenAt_97 rfl (xm_T_iald rfl q3 (by decide) (fun e => e.elim (fun e => absurd e (by decide)) (fun e => Nat.not_le.mpr q4 e))) ?_
  refine xm_E_s (ls1 := [some (.ref l0), some (.int l1), some (.int l2), some (.int l3), some (.int (h.1 v0 0)), none, none]) r_X11_chosenAt_98 rfl rfl ?_
  refine xm_E_s r_X11_chosenAt_99 rfl rfl ?_
  refine xm_E_s (ls1 := [some (.ref l0), some (.int l1), some (.int l2), some (.int l3), some (.int (h.1 v0 0)), some (.int (0 : Int32)), none]) r_X11_chosenAt_100 rfl rfl ?_
  exact K
theorem p_X11_chosenAt_46_1 {X : xm_X} {P : List xm_M} {d : Nat} {h : xm_H} {l0 : Nat} {l1 : Int32} {l2 : Int32} {l3 : Int32} {l4 : Option Value} {ro : Option Value} {ho : xm_H} (q0 : ¬ (l3 = (0 : Int32))) (K : xm_E X P d co_X11_chosenAt 52 [some (.ref l0), some (.int l1), some (.int l2), some (.int (0 : Int32)), some (.int (0 : Int32)), none, none] [] h ro ho) : xm_E X P d co_X11_chosenAt 46 [some (.ref l0), some (.int l1), some (.int l2), some (.int l3), l4, none, none] [] h ro ho := by
  refine xm_E_s r_X11_chosenAt_46 rfl rfl ?_
  refine xm_E_s r_X11_chosenAt_47 rfl rfl ?_
  refine xm_E_f q0 ?_
  refine xm_E_s r_X11_chosenAt_48 rfl rfl ?_
  refine xm_E_s (ls1 := [some (.ref l0), some (.int l1), some (.int l2), some (.int (0 : Int32)), l4, none, none]) r_X11_chosenAt_49 rfl rfl ?_
  refine xm_E_s r_X11_chosenAt_50 rfl rfl ?_
  refine xm_E_s (ls1 := [some (.ref l0), some (.int l1), some (.int l2), some (.int (0 : Int32)), some (.int (0 : Int32)), none, none]) r_X11_chosenAt_51 rfl rfl ?_
  exact K
theorem p_X11_chosenAt_52_0 {X : xm_X} {P : List xm_M} {d : Nat} {h : xm_H} {l0 : Nat} {l1 : Int32} {l2 : Int32} {l3 : Int32} {l4 : Int32} {ro : Option Value} {ho : xm_H} (q0 : X.1[l0]? = some (.inr 10)) (q1 : h.1 l0 23 ≤ l4) (K : xm_E X P d co_X11_chosenAt 46 [some (.ref l0), some (.int l1), some (.int l2), some (.int l3), some (.int l4), none, none] [] h ro ho) : xm_E X P d co_X11_chosenAt 52 [some (.ref l0), some (.int l1), some (.int l2), some (.int l3), some (.int l4), none, none] [] h ro ho := by
  refine xm_E_s r_X11_chosenAt_52 rfl rfl ?_
  refine xm_E_s r_X11_chosenAt_53 rfl rfl ?_
  refine xm_E_s r_X11_chosenAt_54 rfl (xm_T_gi rfl q0 rfl (Or.inl rfl)) ?_
  refine xm_E_s r_X11_chosenAt_55 rfl rfl ?_
  refine xm_E_t q1 ?_
  refine xm_E_s r_X11_chosenAt_93 rfl rfl ?_
  exact K
theorem p_X11_chosenAt_52_1 {X : xm_X} {P : List xm_M} {d : Nat} {h : xm_H} {l0 : Nat} {l1 : Int32} {l2 : Int32} {l3 : Int32} {l4 : Int32} {v0 : Nat} {v1 : Nat} {n2 : Nat} {n3 : Nat} {b3 : Nat} {v4 : Nat} {n5 : Nat} {ro : Option Value} {ho : xm_H} (q0 : X.1[l0]? = some (.inr 10)) (q1 : ¬ (h.1 l0 23 ≤ l4)) (q2 : h.2.2 l0 21 = some v0) (q3 : h.2.2 l0 22 = some v1) (q4 : X.1[v1]? = some (.inl (0, n2))) (q5 : ¬ (l4 < 0 ∨ n2 ≤ l4.toNatClampNeg)) (q6 : X.1[v0]? = some (.inl (b3, n3))) (q7 : ¬ (h.1 v1 l4.toNatClampNeg < 0 ∨ n3 ≤ (h.1 v1 l4.toNatClampNeg).toNatClampNeg)) (q8 : 1 ≤ b3 ∧ b3 ≤ 2) (q9 : h.1 v0 ((h.1 v1 l4.toNatClampNeg).toNatClampNeg) = (0 : Int32)) (q10 : h.2.2 l0 20 = some v4) (q11 : X.1[v4]? = some (.inl (0, n5))) (q12 : ¬ (h.1 v1 l4.toNatClampNeg < 0 ∨ n5 ≤ (h.1 v1 l4.toNatClampNeg).toNatClampNeg)) (q13 : l2 ≤ h.1 v4 ((h.1 v1 l4.toNatClampNeg).toNatClampNeg)) (K : xm_E X P d co_X11_chosenAt 52 [some (.ref l0), some (.int l1), some (.int l2), some (.int l3), some (.int (l4 + (1 : Int32))), none, none] [] h ro ho) : xm_E X P d co_X11_chosenAt 52 [some (.ref l0), some (.int l1), some (.int l2), some (.int l3), some (.int l4), none, none] [] h ro ho := by
  refine xm_E_s r_X11_chosenAt_52 rfl rfl ?_
  refine xm_E_s r_X11_chosenAt_53 rfl rfl ?_
  refine xm_E_s r_X11_chosenAt_54 rfl (xm_T_gi rfl q0 rfl (Or.inl rfl)) ?_
  refine xm_E_s r_X11_chosenAt_55 rfl rfl ?_
  refine xm_E_f q1 ?_
  refine xm_E_s r_X11_chosenAt_56 rfl rfl ?_
  refine xm_E_s r_X11_chosenAt_57 rfl (xm_T_gr rfl q0 rfl rfl q2) ?_
  refine xm_E_s r_X11_chosenAt_58 rfl rfl ?_
  refine xm_E_s r_X11_chosenAt_59 rfl (xm_T_gr rfl q0 rfl rfl q3) ?_
  refine xm_E_s r_X11_chosenAt_60 rfl rfl ?_
  refine xm_E_s r_X11_chosenAt_61 rfl (xm_T_iald rfl q4 (by decide) q5) ?_
  refine xm_E_s r_X11_chosenAt_62 rfl (xm_T_bald rfl q6 q8 q7) ?_
  refine xm_E_s r_X11_chosenAt_63 rfl rfl ?_
  refine xm_E_t q9 ?_
  refine xm_E_s r_X11_chosenAt_64 rfl rfl ?_
  refine xm_E_s r_X11_chosenAt_65 rfl (xm_T_gr rfl q0 rfl rfl q10) ?_
  refine xm_E_s r_X11_chosenAt_66 rfl rfl ?_
  refine xm_E_s r_X11_chosenAt_67 rfl (xm_T_gr rfl q0 rfl rfl q3) ?_
  refine xm_E_s r_X11_chosenAt_68 rfl rfl ?_
  refine xm_E_s r_X11_chosenAt_69 rfl (xm_T_iald rfl q4 (by decide) q5) ?_
  refine xm_E_s r_X11_chosenAt_70 rfl (xm_T_iald rfl q11 (by decide) q12) ?_
  refine xm_E_s r_X11_chosenAt_71 rfl rfl ?_
  refine xm_E_s r_X11_chosenAt_72 rfl rfl ?_
  refine xm_E_t q13 ?_
  refine xm_E_s (ls1 := [some (.ref l0), some (.int l1), some (.int l2), some (.int l3), some (.int (l4 + (1 : Int32))), none, none]) r_X11_chosenAt_91 rfl rfl ?_
  refine xm_E_s r_X11_chosenAt_92 rfl rfl ?_
  exact K
theorem p_X11_chosenAt_52_2 {X : xm_X} {P : List xm_M} {d : Nat} {h : xm_H} {l0 : Nat} {l1 : Int32} {l2 : Int32} {l3 : Int32} {l4 : Int32} {v0 : Nat} {v1 : Nat} {n2 : Nat} {n3 : Nat} {b3 : Nat} {v4 : Nat} {n5 : Nat} {h6 : xm_H} {r6 : Int32} {ro : Option Value} {ho : xm_H} (q0 : X.1[l0]? = some (.inr 10)) (q1 : ¬ (h.1 l0 23 ≤ l4)) (q2 : h.2.2 l0 21 = some v0) (q3 : h.2.2 l0 22 = some v1) (q4 : X.1[v1]? = some (.inl (0, n2))) (q5 : ¬ (l4 < 0 ∨ n2 ≤ l4.toNatClampNeg)) (q6 : X.1[v0]? = some (.inl (b3, n3))) (q7 : ¬ (h.1 v1 l4.toNatClampNeg < 0 ∨ n3 ≤ (h.1 v1 l4.toNatClampNeg).toNatClampNeg)) (q8 : 1 ≤ b3 ∧ b3 ≤ 2) (q9 : h.1 v0 ((h.1 v1 l4.toNatClampNeg).toNatClampNeg) = (0 : Int32)) (q10 : h.2.2 l0 20 = some v4) (q11 : X.1[v4]? = some (.inl (0, n5))) (q12 : ¬ (h.1 v1 l4.toNatClampNeg < 0 ∨ n5 ≤ (h.1 v1 l4.toNatClampNeg).toNatClampNeg)) (q13 : ¬ (l2 ≤ h.1 v4 ((h.1 v1 l4.toNatClampNeg).toNatClampNeg))) (q14 : xm_V X P d 270 [.ref l0, .int (h.1 v1 l4.toNatClampNeg)] h (some (.int r6)) h6) (q15 : r6 = (0 : Int32)) (K : xm_E X P d co_X11_chosenAt 52 [some (.ref l0), some (.int l1), some (.int l2), some (.int l3), some (.int (l4 + (1 : Int32))), none, none] [] h6 ro ho) : xm_E X P d co_X11_chosenAt 52 [some (.ref l0), some (.int l1), some (.int l2), some (.int l3), some (.int l4), none, none] [] h ro ho := by
  refine xm_E_s r_X11_chosenAt_52 rfl rfl ?_
  refine xm_E_s r_X11_chosenAt_53 rfl rfl ?_
  refine xm_E_s r_X11_chosenAt_54 rfl (xm_T_gi rfl q0 rfl (Or.inl rfl)) ?_
  refine xm_E_s r_X11_chosenAt_55 rfl rfl ?_
  refine xm_E_f q1 ?_
  refine xm_E_s r_X11_chosenAt_56 rfl rfl ?_
  refine xm_E_s r_X11_chosenAt_57 rfl (xm_T_gr rfl q0 rfl rfl q2) ?_
  refine xm_E_s r_X11_chosenAt_58 rfl rfl ?_
  refine xm_E_s r_X11_chosenAt_59 rfl (xm_T_gr rfl q0 rfl rfl q3) ?_
  refine xm_E_s r_X11_chosenAt_60 rfl rfl ?_
  refine xm_E_s r_X11_chosenAt_61 rfl (xm_T_iald rfl q4 (by decide) q5) ?_
  refine xm_E_s r_X11_chosenAt_62 rfl (xm_T_bald rfl q6 q8 q7) ?_
  refine xm_E_s r_X11_chosenAt_63 rfl rfl ?_
  refine xm_E_t q9 ?_
  refine xm_E_s r_X11_chosenAt_64 rfl rfl ?_
  refine xm_E_s r_X11_chosenAt_65 rfl (xm_T_gr rfl q0 rfl rfl q10) ?_
  refine xm_E_s r_X11_chosenAt_66 rfl rfl ?_
  refine xm_E_s r_X11_chosenAt_67 rfl (xm_T_gr rfl q0 rfl rfl q3) ?_
  refine xm_E_s r_X11_chosenAt_68 rfl rfl ?_
  refine xm_E_s r_X11_chosenAt_69 rfl (xm_T_iald rfl q4 (by decide) q5) ?_
  refine xm_E_s r_X11_chosenAt_70 rfl (xm_T_iald rfl q11 (by decide) q12) ?_
  refine xm_E_s r_X11_chosenAt_71 rfl rfl ?_
  refine xm_E_s r_X11_chosenAt_72 rfl rfl ?_
  refine xm_E_f q13 ?_
  refine xm_E_s r_X11_chosenAt_73 rfl rfl ?_
  refine xm_E_s r_X11_chosenAt_74 rfl rfl ?_
  refine xm_E_s r_X11_chosenAt_75 rfl (xm_T_gr rfl q0 rfl rfl q3) ?_
  refine xm_E_s r_X11_chosenAt_76 rfl rfl ?_
  refine xm_E_s r_X11_chosenAt_77 rfl (xm_T_iald rfl q4 (by decide) q5) ?_
  refine xm_E_cv [.ref l0, .int (h.1 v1 l4.toNatClampNeg)] [] r_X11_chosenAt_78 rfl rfl (Nat.le_of_ble_eq_true rfl) (xm_rc q0 (by decide)) rfl q14 ?_
  refine xm_E_s r_X11_chosenAt_79 rfl rfl ?_
  refine xm_E_t q15 ?_
  refine xm_E_s r_X11_chosenAt_80 rfl rfl ?_
  refine xm_E_s (ls1 := [some (.ref l0), some (.int l1), some (.int l2), some (.int l3), some (.int (l4 + (1 : Int32))), none, none]) r_X11_chosenAt_91 rfl rfl ?_
  refine xm_E_s r_X11_chosenAt_92 rfl rfl ?_
  exact K
theorem p_X11_chosenAt_52_3 {X : xm_X} {P : List xm_M} {d : Nat} {h : xm_H} {l0 : Nat} {l1 : Int32} {l2 : Int32} {l3 : Int32} {l4 : Int32} {v0 : Nat} {v1 : Nat} {n2 : Nat} {n3 : Nat} {b3 : Nat} {v4 : Nat} {n5 : Nat} {h6 : xm_H} {r6 : Int32} {v7 : Nat} {v8 : Nat} {n9 : Nat} {n10 : Nat} {ro : Option Value} {ho : xm_H} (q0 : X.1[l0]? = some (.inr 10)) (q1 : ¬ (h.1 l0 23 ≤ l4)) (q2 : h.2.2 l0 21 = some v0) (q3 : h.2.2 l0 22 = some v1) (q4 : X.1[v1]? = some (.inl (0, n2))) (q5 : ¬ (l4 < 0 ∨ n2 ≤ l4.toNatClampNeg)) (q6 : X.1[v0]? = some (.inl (b3, n3))) (q7 : ¬ (h.1 v1 l4.toNatClampNeg < 0 ∨ n3 ≤ (h.1 v1 l4.toNatClampNeg).toNatClampNeg)) (q8 : 1 ≤ b3 ∧ b3 ≤ 2) (q9 : h.1 v0 ((h.1 v1 l4.toNatClampNeg).toNatClampNeg) = (0 : Int32)) (q10 : h.2.2 l0 20 = some v4) (q11 : X.1[v4]? = some (.inl (0, n5))) (q12 : ¬ (h.1 v1 l4.toNatClampNeg < 0 ∨ n5 ≤ (h.1 v1 l4.toNatClampNeg).toNatClampNeg)) (q13 : ¬ (l2 ≤ h.1 v4 ((h.1 v1 l4.toNatClampNeg).toNatClampNeg))) (q14 : xm_V X P d 270 [.ref l0, .int (h.1 v1 l4.toNatClampNeg)] h (some (.int r6)) h6) (q15 : ¬ (r6 = (0 : Int32))) (q16 : h6.2.2 l0 21 = some v7) (q17 : h6.2.2 l0 22 = some v8) (q18 : X.1[v8]? = some (.inl (0, n9))) (q19 : ¬ (l4 < 0 ∨ n9 ≤ l4.toNatClampNeg)) (q20 : X.1[v7]? = some (.inl (2, n10))) (q21 : ¬ (h6.1 v8 l4.toNatClampNeg < 0 ∨ n10 ≤ (h6.1 v8 l4.toNatClampNeg).toNatClampNeg)) (K : xm_E X P d co_X11_chosenAt 52 [some (.ref l0), some (.int l1), some (.int l2), some (.int (1 : Int32)), some (.int (l4 + (1 : Int32))), none, none] [] (xm_si h6 v7 ((h6.1 v8 l4.toNatClampNeg).toNatClampNeg) (vp_nar .boolean (1 : Int32))) ro ho) : xm_E X P d co_X11_chosenAt 52 [some (.ref l0), some (.int l1), some (.int l2), some (.int l3), some (.int l4), none, none] [] h ro ho := by
  refine xm_E_s r_X11_chosenAt_52 rfl rfl ?_
  refine xm_E_s r_X11_chosenAt_53 rfl rfl ?_
  refine xm_E_s r_X11_chosenAt_54 rfl (xm_T_gi rfl q0 rfl (Or.inl rfl)) ?_
  refine xm_E_s r_X11_chosenAt_55 rfl rfl ?_
  refine xm_E_f q1 ?_
  refine xm_E_s r_X11_chosenAt_56 rfl rfl ?_
  refine xm_E_s r_X11_chosenAt_57 rfl (xm_T_gr rfl q0 rfl rfl q2) ?_
  refine xm_E_s r_X11_chosenAt_58 rfl rfl ?_
  refine xm_E_s r_X11_chosenAt_59 rfl (xm_T_gr rfl q0 rfl rfl q3) ?_
  refine xm_E_s r_X11_chosenAt_60 rfl rfl ?_
  refine xm_E_s r_X11_chosenAt_61 rfl (xm_T_iald rfl q4 (by decide) q5) ?_
  refine xm_E_s r_X11_chosenAt_62 rfl (xm_T_bald rfl q6 q8 q7) ?_
  refine xm_E_s r_X11_chosenAt_63 rfl rfl ?_
  refine xm_E_t q9 ?_
  refine xm_E_s r_X11_chosenAt_64 rfl rfl ?_
  refine xm_E_s r_X11_chosenAt_65 rfl (xm_T_gr rfl q0 rfl rfl q10) ?_
  refine xm_E_s r_X11_chosenAt_66 rfl rfl ?_
  refine xm_E_s r_X11_chosenAt_67 rfl (xm_T_gr rfl q0 rfl rfl q3) ?_
  refine xm_E_s r_X11_chosenAt_68 rfl rfl ?_
  refine xm_E_s r_X11_chosenAt_69 rfl (xm_T_iald rfl q4 (by decide) q5) ?_
  refine xm_E_s r_X11_chosenAt_70 rfl (xm_T_iald rfl q11 (by decide) q12) ?_
  refine xm_E_s r_X11_chosenAt_71 rfl rfl ?_
  refine xm_E_s r_X11_chosenAt_72 rfl rfl ?_
  refine xm_E_f q13 ?_
  refine xm_E_s r_X11_chosenAt_73 rfl rfl ?_
  refine xm_E_s r_X11_chosenAt_74 rfl rfl ?_
  refine xm_E_s r_X11_chosenAt_75 rfl (xm_T_gr rfl q0 rfl rfl q3) ?_
  refine xm_E_s r_X11_chosenAt_76 rfl rfl ?_
  refine xm_E_s r_X11_chosenAt_77 rfl (xm_T_iald rfl q4 (by decide) q5) ?_
  refine xm_E_cv [.ref l0, .int (h.1 v1 l4.toNatClampNeg)] [] r_X11_chosenAt_78 rfl rfl (Nat.le_of_ble_eq_true rfl) (xm_rc q0 (by decide)) rfl q14 ?_
  refine xm_E_s r_X11_chosenAt_79 rfl rfl ?_
  refine xm_E_f q15 ?_
  refine xm_E_s r_X11_chosenAt_81 rfl rfl ?_
  refine xm_E_s r_X11_chosenAt_82 rfl (xm_T_gr rfl q0 rfl rfl q16) ?_
  refine xm_E_s r_X11_chosenAt_83 rfl rfl ?_
  refine xm_E_s r_X11_chosenAt_84 rfl (xm_T_gr rfl q0 rfl rfl q17) ?_
  refine xm_E_s r_X11_chosenAt_85 rfl rfl ?_
  refine xm_E_s r_X11_chosenAt_86 rfl (xm_T_iald rfl q18 (by decide) q19) ?_
  refine xm_E_s r_X11_chosenAt_87 rfl rfl ?_
  refine xm_E_s r_X11_chosenAt_88 rfl (xm_T_asz rfl q20 q21) ?_
  refine xm_E_s r_X11_chosenAt_89 rfl rfl ?_
  refine xm_E_s (ls1 := [some (.ref l0), some (.int l1), some (.int l2), some (.int (1 : Int32)), some (.int l4), none, none]) r_X11_chosenAt_90 rfl rfl ?_
  refine xm_E_s (ls1 := [some (.ref l0), some (.int l1), some (.int l2), some (.int (1 : Int32)), some (.int (l4 + (1 : Int32))), none, none]) r_X11_chosenAt_91 rfl rfl ?_
  refine xm_E_s r_X11_chosenAt_92 rfl rfl ?_
  exact K
theorem p_X11_chosenAt_52_4 {X : xm_X} {P : List xm_M} {d : Nat} {h : xm_H} {l0 : Nat} {l1 : Int32} {l2 : Int32} {l3 : Int32} {l4 : Int32} {v0 : Nat} {v1 : Nat} {n2 : Nat} {n3 : Nat} {b3 : Nat} {ro : Option Value} {ho : xm_H} (q0 : X.1[l0]? = some (.inr 10)) (q1 : ¬ (h.1 l0 23 ≤ l4)) (q2 : h.2.2 l0 21 = some v0) (q3 : h.2.2 l0 22 = some v1) (q4 : X.1[v1]? = some (.inl (0, n2))) (q5 : ¬ (l4 < 0 ∨ n2 ≤ l4.toNatClampNeg)) (q6 : X.1[v0]? = some (.inl (b3, n3))) (q7 : ¬ (h.1 v1 l4.toNatClampNeg < 0 ∨ n3 ≤ (h.1 v1 l4.toNatClampNeg).toNatClampNeg)) (q8 : 1 ≤ b3 ∧ b3 ≤ 2) (q9 : ¬ (h.1 v0 ((h.1 v1 l4.toNatClampNeg).toNatClampNeg) = (0 : Int32))) (K : xm_E X P d co_X11_chosenAt 52 [some (.ref l0), some (.int l1), some (.int l2), some (.int l3), some (.int (l4 + (1 : Int32))), none, none] [] h ro ho) : xm_E X P d co_X11_chosenAt 52 [some (.ref l0), some (.int l1), some (.int l2), some (.int l3), some (.int l4), none, none] [] h ro ho := by
  refine xm_E_s r_X11_chosenAt_52 rfl rfl ?_
  refine xm_E_s r_X11_chosenAt_53 rfl rfl ?_
  refine xm_E_s r_X11_chosenAt_54 rfl (xm_T_gi rfl q0 rfl (Or.inl rfl)) ?_
  refine xm_E_s r_X11_chosenAt_55 rfl rfl ?_
  refine xm_E_f q1 ?_
  refine xm_E_s r_X11_chosenAt_56 rfl rfl ?_
  refine xm_E_s r_X11_chosenAt_57 rfl (xm_T_gr rfl q0 rfl rfl q2) ?_
  refine xm_E_s r_X11_chosenAt_58 rfl rfl ?_
  refine xm_E_s r_X11_chosenAt_59 rfl (xm_T_gr rfl q0 rfl rfl q3) ?_
  refine xm_E_s r_X11_chosenAt_60 rfl rfl ?_
  refine xm_E_s r_X11_chosenAt_61 rfl (xm_T_iald rfl q4 (by decide) q5) ?_
  refine xm_E_s r_X11_chosenAt_62 rfl (xm_T_bald rfl q6 q8 q7) ?_
  refine xm_E_s r_X11_chosenAt_63 rfl rfl ?_
  refine xm_E_f q9 ?_
  refine xm_E_s (ls1 := [some (.ref l0), some (.int l1), some (.int l2), some (.int l3), some (.int (l4 + (1 : Int32))), none, none]) r_X11_chosenAt_91 rfl rfl ?_
  refine xm_E_s r_X11_chosenAt_92 rfl rfl ?_
  exact K
theorem p_X11_chosenAt_101_0 {X : xm_X} {P : List xm_M} {d : Nat} {h : xm_H} {l0 : Nat} {l1 : Int32} {l2 : Int32} {l3 : Int32} {l4 : Int32} {l5 : Int32} {l6 : Option Value} {v0 : Nat} {n1 : Nat} (q0 : X.1[l0]? = some (.inr 10)) (q1 : h.2.2 l0 20 = some v0) (q2 : X.1[v0]? = some (.inl (0, n1))) (q3 : ¬ (l4 < 0 ∨ n1 ≤ l4.toNatClampNeg)) (q4 : l2 ≤ h.1 v0 l4.toNatClampNeg) : xm_E X P d co_X11_chosenAt 101 [some (.ref l0), some (.int l1), some (.int l2), some (.int l3), some (.int l4), some (.int l5), l6] [] h (some (.int (-1 : Int32))) h := by
  refine xm_E_s r_X11_chosenAt_101 rfl rfl ?_
  refine xm_E_s r_X11_chosenAt_102 rfl (xm_T_gr rfl q0 rfl rfl q1) ?_
  refine xm_E_s r_X11_chosenAt_103 rfl rfl ?_
  refine xm_E_s r_X11_chosenAt_104 rfl (xm_T_iald rfl q2 (by decide) q3) ?_
  refine xm_E_s r_X11_chosenAt_105 rfl rfl ?_
  refine xm_E_s r_X11_chosenAt_106 rfl rfl ?_
  refine xm_E_t q4 ?_
  refine xm_E_s r_X11_chosenAt_128 rfl rfl ?_
  exact xm_E_iret r_X11_chosenAt_129 rfl rfl
theorem p_X11_chosenAt_101_1 {X : xm_X} {P : List xm_M} {d : Nat} {h : xm_H} {l0 : Nat} {l1 : Int32} {l2 : Int32} {l3 : Int32} {l4 : Int32} {l5 : Int32} {l6 : Option Value} {v0 : Nat} {n1 : Nat} {ro : Option Value} {ho : xm_H} (q0 : X.1[l0]? = some (.inr 10)) (q1 : h.2.2 l0 20 = some v0) (q2 : X.1[v0]? = some (.inl (0, n1))) (q3 : ¬ (l4 < 0 ∨ n1 ≤ l4.toNatClampNeg)) (q4 : ¬ (l2 ≤ h.1 v0 l4.toNatClampNeg)) (K : xm_E X P d co_X11_chosenAt 109 [some (.ref l0), some (.int l1), some (.int l2), some (.int l3), some (.int l4), some (.int l5), some (.int (0 : Int32))] [] h ro ho) : xm_E X P d co_X11_chosenAt 101 [some (.ref l0), some (.int l1), some (.int l2), some (.int l3), some (.int l4), some (.int l5), l6] [] h ro ho := by
  refine xm_E_s r_X11_chosenAt_101 rfl rfl ?_
  refine xm_E_s r_X11_chosenAt_102 rfl (xm_T_gr rfl q0 rfl rfl q1) ?_
  refine xm_E_s r_X11_chosenAt_103 rfl rfl ?_
  refine xm_E_s r_X11_chosenAt_104 rfl (xm_T_iald rfl q2 (by decide) q3) ?_
  refine xm_E_s r_X11_chosenAt_105 rfl rfl ?_
  refine xm_E_s r_X11_chosenAt_106 rfl rfl ?_
  refine xm_E_f q4 ?_
  refine xm_E_s r_X11_chosenAt_107 rfl rfl ?_
  refine xm_E_s (ls1 := [some (.ref l0), some (.int l1), some (.int l2), some (.int l3), some (.int l4), some (.int l5), some (.int (0 : Int32))]) r_X11_chosenAt_108 rfl rfl ?_
  exact K
theorem p_X11_chosenAt_109_0 {X : xm_X} {P : List xm_M} {d : Nat} {h : xm_H} {l0 : Nat} {l1 : Int32} {l2 : Int32} {l3 : Int32} {l4 : Int32} {l5 : Int32} {l6 : Int32} {h0 : xm_H} {r0 : Int32} {ro : Option Value} {ho : xm_H} (q0 : xm_V X P d 271 [.ref l0, .int l4, .int l6] h (some (.int r0)) h0) (q1 : X.1[l0]? = some (.inr 10)) (q2 : r0 = (0 : Int32)) (K : xm_E X P d co_X11_chosenAt 109 [some (.ref l0), some (.int l1), some (.int l2), some (.int l3), some (.int l4), some (.int l5), some (.int (l6 + (1 : Int32)))] [] h0 ro ho) : xm_E X P d co_X11_chosenAt 109 [some (.ref l0), some (.int l1), some (.int l2), some (.int l3), some (.int l4), some (.int l5), some (.int l6)] [] h ro ho := by
  refine xm_E_s r_X11_chosenAt_109 rfl rfl ?_
  refine xm_E_s r_X11_chosenAt_110 rfl rfl ?_
  refine xm_E_s r_X11_chosenAt_111 rfl rfl ?_
  refine xm_E_cv [.ref l0, .int l4, .int l6] [] r_X11_chosenAt_112 rfl rfl (Nat.le_of_ble_eq_true rfl) (xm_rc q1 (by decide)) rfl q0 ?_
  refine xm_E_s r_X11_chosenAt_113 rfl rfl ?_
  refine xm_E_t q2 ?_
  refine xm_E_s (ls1 := [some (.ref l0), some (.int l1), some (.int l2), some (.int l3), some (.int l4), some (.int l5), some (.int (l6 + (1 : Int32)))]) r_X11_chosenAt_114 rfl rfl ?_
  refine xm_E_s r_X11_chosenAt_115 rfl rfl ?_
  exact K
theorem p_X11_chosenAt_109_1 {X : xm_X} {P : List xm_M} {d : Nat} {h : xm_H} {l0 : Nat} {l1 : Int32} {l2 : Int32} {l3 : Int32} {l4 : Int32} {l5 : Int32} {l6 : Int32} {h0 : xm_H} {r0 : Int32} (q0 : xm_V X P d 271 [.ref l0, .int l4, .int l6] h (some (.int r0)) h0) (q1 : X.1[l0]? = some (.inr 10)) (q2 : ¬ (r0 = (0 : Int32))) (q3 : l5 = l1) : xm_E X P d co_X11_chosenAt 109 [some (.ref l0), some (.int l1), some (.int l2), some (.int l3), some (.int l4), some (.int l5), some (.int l6)] [] h (some (.int l6)) h0 := by
  refine xm_E_s r_X11_chosenAt_109 rfl rfl ?_
  refine xm_E_s r_X11_chosenAt_110 rfl rfl ?_
  refine xm_E_s r_X11_chosenAt_111 rfl rfl ?_
  refine xm_E_cv [.ref l0, .int l4, .int l6] [] r_X11_chosenAt_112 rfl rfl (Nat.le_of_ble_eq_true rfl) (xm_rc q1 (by decide)) rfl q0 ?_
  refine xm_E_s r_X11_chosenAt_113 rfl rfl ?_
  refine xm_E_f q2 ?_
  refine xm_E_s r_X11_chosenAt_116 rfl rfl ?_
  refine xm_E_s r_X11_chosenAt_117 rfl rfl ?_
  refine xm_E_s r_X11_chosenAt_118 rfl rfl ?_
  refine xm_E_t q3 ?_
  refine xm_E_s r_X11_chosenAt_119 rfl rfl ?_
  exact xm_E_iret r_X11_chosenAt_120 rfl rfl
theorem p_X11_chosenAt_109_2 {X : xm_X} {P : List xm_M} {d : Nat} {h : xm_H} {l0 : Nat} {l1 : Int32} {l2 : Int32} {l3 : Int32} {l4 : Int32} {l5 : Int32} {l6 : Int32} {h0 : xm_H} {r0 : Int32} {h1 : xm_H} {r1 : Int32} {ro : Option Value} {ho : xm_H} (q0 : xm_V X P d 271 [.ref l0, .int l4, .int l6] h (some (.int r0)) h0) (q1 : X.1[l0]? = some (.inr 10)) (q2 : ¬ (r0 = (0 : Int32))) (q3 : ¬ (l5 = l1)) (q4 : xm_V X P d 263 [.ref l0, .int l4, .int l6] h0 (some (.int r1)) h1) (K : xm_E X P d co_X11_chosenAt 101 [some (.ref l0), some (.int l1), some (.int l2), some (.int l3), some (.int r1), some (.int (l5 + (1 : Int32))), some (.int l6)] [] h1 ro ho) : xm_E X P d co_X11_chosenAt 109 [some (.ref l0), some (.int l1), some (.int l2), some (.int l3), some (.int l4), some (.int l5), some (.int l6)] [] h ro ho := by
  refine xm_E_s r_X11_chosenAt_109 rfl rfl ?_
  refine xm_E_s r_X11_chosenAt_110 rfl rfl ?_
  refine xm_E_s r_X11_chosenAt_111 rfl rfl ?_
  refine xm_E_cv [.ref l0, .int l4, .int l6] [] r_X11_chosenAt_112 rfl rfl (Nat.le_of_ble_eq_true rfl) (xm_rc q1 (by decide)) rfl q0 ?_
  refine xm_E_s r_X11_chosenAt_113 rfl rfl ?_
  refine xm_E_f q2 ?_
  refine xm_E_s r_X11_chosenAt_116 rfl rfl ?_
  refine xm_E_s r_X11_chosenAt_117 rfl rfl ?_
  refine xm_E_s r_X11_chosenAt_118 rfl rfl ?_
  refine xm_E_f q3 ?_
  refine xm_E_s r_X11_chosenAt_121 rfl rfl ?_
  refine xm_E_s r_X11_chosenAt_122 rfl rfl ?_
  refine xm_E_s r_X11_chosenAt_123 rfl rfl ?_
  refine xm_E_cv [.ref l0, .int l4, .int l6] [] r_X11_chosenAt_124 rfl rfl (Nat.le_of_ble_eq_true rfl) (xm_rc q1 (by decide)) rfl q4 ?_
  refine xm_E_s (ls1 := [some (.ref l0), some (.int l1), some (.int l2), some (.int l3), some (.int r1), some (.int l5), some (.int l6)]) r_X11_chosenAt_125 rfl rfl ?_
  refine xm_E_s (ls1 := [some (.ref l0), some (.int l1), some (.int l2), some (.int l3), some (.int r1), some (.int (l5 + (1 : Int32))), some (.int l6)]) r_X11_chosenAt_126 rfl rfl ?_
  refine xm_E_s r_X11_chosenAt_127 rfl rfl ?_
  exact K
theorem r_X11_leadsOn_0 : co_X11_leadsOn[0]? = some ((0, .iconst 0, 0, 0, 0, 0, 0, 0, []) : xm_I) := rfl
theorem r_X11_leadsOn_1 : co_X11_leadsOn[1]? = some ((1, .istore_n 2, 0, 0, 0, 0, 0, 0, []) : xm_I) := rfl
theorem r_X11_leadsOn_2 : co_X11_leadsOn[2]? = some ((2, .iload_n 2, 0, 0, 0, 0, 0, 0, []) : xm_I) := rfl
theorem r_X11_leadsOn_3 : co_X11_leadsOn[3]? = some ((3, .aload_n 0, 0, 0, 0, 0, 0, 0, []) : xm_I) := rfl
theorem r_X11_leadsOn_4 : co_X11_leadsOn[4]? = some ((4, .invokevirtual 390, 1819, 262, 1, 10, 0, 0, []) : xm_I) := rfl
theorem r_X11_leadsOn_5 : co_X11_leadsOn[5]? = some ((7, .if_icmp .ge 20, 0, 0, 15, 0, 0, 0, []) : xm_I) := rfl
theorem r_X11_leadsOn_6 : co_X11_leadsOn[6]? = some ((10, .aload_n 0, 0, 0, 0, 0, 0, 0, []) : xm_I) := rfl
theorem r_X11_leadsOn_7 : co_X11_leadsOn[7]? = some ((11, .iload_n 1, 0, 0, 0, 0, 0, 0, []) : xm_I) := rfl
theorem r_X11_leadsOn_8 : co_X11_leadsOn[8]? = some ((12, .iload_n 2, 0, 0, 0, 0, 0, 0, []) : xm_I) := rfl
theorem r_X11_leadsOn_9 : co_X11_leadsOn[9]? = some ((13, .invokevirtual 411, 1855, 271, 3, 10, 0, 0, []) : xm_I) := rfl
theorem r_X11_leadsOn_10 : co_X11_leadsOn[10]? = some ((16, .ifCond .eq 5, 0, 0, 13, 0, 0, 0, []) : xm_I) := rfl
theorem r_X11_leadsOn_11 : co_X11_leadsOn[11]? = some ((19, .iconst 1, 0, 0, 0, 0, 1, 0, []) : xm_I) := rfl
theorem r_X11_leadsOn_12 : co_X11_leadsOn[12]? = some ((20, .ireturn, 0, 0, 0, 3, 0, 0, []) : xm_I) := rfl
theorem r_X11_leadsOn_13 : co_X11_leadsOn[13]? = some ((21, .iinc 2 1, 0, 0, 0, 0, 1, 0, []) : xm_I) := rfl
theorem r_X11_leadsOn_14 : co_X11_leadsOn[14]? = some ((24, .goto (-22), 0, 0, 2, 0, 0, 0, []) : xm_I) := rfl
theorem r_X11_leadsOn_15 : co_X11_leadsOn[15]? = some ((27, .iconst 0, 0, 0, 0, 0, 0, 0, []) : xm_I) := rfl
theorem r_X11_leadsOn_16 : co_X11_leadsOn[16]? = some ((28, .ireturn, 0, 0, 0, 3, 0, 0, []) : xm_I) := rfl
theorem p_X11_leadsOn_0_0 {X : xm_X} {P : List xm_M} {d : Nat} {h : xm_H} {l0 : Nat} {l1 : Int32} {ro : Option Value} {ho : xm_H}  (K : xm_E X P d co_X11_leadsOn 2 [some (.ref l0), some (.int l1), some (.int (0 : Int32))] [] h ro ho) : xm_E X P d co_X11_leadsOn 0 [some (.ref l0), some (.int l1), none] [] h ro ho := by
  refine xm_E_s r_X11_leadsOn_0 rfl rfl ?_
  refine xm_E_s (ls1 := [some (.ref l0), some (.int l1), some (.int (0 : Int32))]) r_X11_leadsOn_1 rfl rfl ?_
  exact K
theorem p_X11_leadsOn_2_0 {X : xm_X} {P : List xm_M} {d : Nat} {h : xm_H} {l0 : Nat} {l1 : Int32} {l2 : Int32} {h0 : xm_H} {r0 : Int32} (q0 : xm_V X P d 262 [.ref l0] h (some (.int r0)) h0) (q1 : X.1[l0]? = some (.inr 10)) (q2 : r0 ≤ l2) : xm_E X P d co_X11_leadsOn 2 [some (.ref l0), some (.int l1), some (.int l2)] [] h (some (.int (0 : Int32))) h0 := by
  refine xm_E_s r_X11_leadsOn_2 rfl rfl ?_
  refine xm_E_s r_X11_leadsOn_3 rfl rfl ?_
  refine xm_E_cv [.ref l0] [.int l2] r_X11_leadsOn_4 rfl rfl (Nat.le_of_ble_eq_true rfl) (xm_rc q1 (by decide)) rfl q0 ?_
  refine xm_E_s r_X11_leadsOn_5 rfl rfl ?_
  refine xm_E_t q2 ?_
  refine xm_E_s r_X11_leadsOn_15 rfl rfl ?_
  exact xm_E_iret r_X11_leadsOn_16 rfl rfl
theorem p_X11_leadsOn_2_1 {X : xm_X} {P : List xm_M} {d : Nat} {h : xm_H} {l0 : Nat} {l1 : Int32} {l2 : Int32} {h0 : xm_H} {r0 : Int32} {h1 : xm_H} {r1 : Int32} {ro : Option Value} {ho : xm_H} (q0 : xm_V X P d 262 [.ref l0] h (some (.int r0)) h0) (q1 : X.1[l0]? = some (.inr 10)) (q2 : ¬ (r0 ≤ l2)) (q3 : xm_V X P d 271 [.ref l0, .int l1, .int l2] h0 (some (.int r1)) h1) (q4 : r1 = (0 : Int32)) (K : xm_E X P d co_X11_leadsOn 2 [some (.ref l0), some (.int l1), some (.int (l2 + (1 : Int32)))] [] h1 ro ho) : xm_E X P d co_X11_leadsOn 2 [some (.ref l0), some (.int l1), some (.int l2)] [] h ro ho := by
  refine xm_E_s r_X11_leadsOn_2 rfl rfl ?_
  refine xm_E_s r_X11_leadsOn_3 rfl rfl ?_
  refine xm_E_cv [.ref l0] [.int l2] r_X11_leadsOn_4 rfl rfl (Nat.le_of_ble_eq_true rfl) (xm_rc q1 (by decide)) rfl q0 ?_
  refine xm_E_s r_X11_leadsOn_5 rfl rfl ?_
  refine xm_E_f q2 ?_
  refine xm_E_s r_X11_leadsOn_6 rfl rfl ?_
  refine xm_E_s r_X11_leadsOn_7 rfl rfl ?_
  refine xm_E_s r_X11_leadsOn_8 rfl rfl ?_
  refine xm_E_cv [.ref l0, .int l1, .int l2] [] r_X11_leadsOn_9 rfl rfl (Nat.le_of_ble_eq_true rfl) (xm_rc q1 (by decide)) rfl q3 ?_
  refine xm_E_s r_X11_leadsOn_10 rfl rfl ?_
  refine xm_E_t q4 ?_
  refine xm_E_s (ls1 := [some (.ref l0), some (.int l1), some (.int (l2 + (1 : Int32)))]) r_X11_leadsOn_13 rfl rfl ?_
  refine xm_E_s r_X11_leadsOn_14 rfl rfl ?_
  exact K
theorem p_X11_leadsOn_2_2 {X : xm_X} {P : List xm_M} {d : Nat} {h : xm_H} {l0 : Nat} {l1 : Int32} {l2 : Int32} {h0 : xm_H} {r0 : Int32} {h1 : xm_H} {r1 : Int32} (q0 : xm_V X P d 262 [.ref l0] h (some (.int r0)) h0) (q1 : X.1[l0]? = some (.inr 10)) (q2 : ¬ (r0 ≤ l2)) (q3 : xm_V X P d 271 [.ref l0, .int l1, .int l2] h0 (some (.int r1)) h1) (q4 : ¬ (r1 = (0 : Int32))) : xm_E X P d co_X11_leadsOn 2 [some (.ref l0), some (.int l1), some (.int l2)] [] h (some (.int (1 : Int32))) h1 := by
  refine xm_E_s r_X11_leadsOn_2 rfl rfl ?_
  refine xm_E_s r_X11_leadsOn_3 rfl rfl ?_
  refine xm_E_cv [.ref l0] [.int l2] r_X11_leadsOn_4 rfl rfl (Nat.le_of_ble_eq_true rfl) (xm_rc q1 (by decide)) rfl q0 ?_
  refine xm_E_s r_X11_leadsOn_5 rfl rfl ?_
  refine xm_E_f q2 ?_
  refine xm_E_s r_X11_leadsOn_6 rfl rfl ?_
  refine xm_E_s r_X11_leadsOn_7 rfl rfl ?_
  refine xm_E_s r_X11_leadsOn_8 rfl rfl ?_
  refine xm_E_cv [.ref l0, .int l1, .int l2] [] r_X11_leadsOn_9 rfl rfl (Nat.le_of_ble_eq_true rfl) (xm_rc q1 (by decide)) rfl q3 ?_
  refine xm_E_s r_X11_leadsOn_10 rfl rfl ?_
  refine xm_E_f q4 ?_
  refine xm_E_s r_X11_leadsOn_11 rfl rfl ?_
  exact xm_E_iret r_X11_leadsOn_12 rfl rfl
theorem r_X11_leadsBy_0 : co_X11_leadsBy[0]? = some ((0, .aload_n 0, 0, 0, 0, 0, 0, 0, []) : xm_I) := rfl
theorem r_X11_leadsBy_1 : co_X11_leadsBy[1]? = some ((1, .iload_n 1, 0, 0, 0, 0, 0, 0, []) : xm_I) := rfl
theorem r_X11_leadsBy_2 : co_X11_leadsBy[2]? = some ((2, .iload_n 2, 0, 0, 0, 0, 0, 0, []) : xm_I) := rfl
theorem r_X11_leadsBy_3 : co_X11_leadsBy[3]? = some ((3, .invokevirtual 393, 1823, 263, 3, 10, 0, 0, []) : xm_I) := rfl
theorem r_X11_leadsBy_4 : co_X11_leadsBy[4]? = some ((6, .istore_n 3, 0, 0, 0, 0, 0, 0, []) : xm_I) := rfl
theorem r_X11_leadsBy_5 : co_X11_leadsBy[5]? = some ((7, .iload_n 3, 0, 0, 0, 0, 0, 0, []) : xm_I) := rfl
theorem r_X11_leadsBy_6 : co_X11_leadsBy[6]? = some ((8, .iconst (-1), 0, 0, 0, 0, (-1), 0, []) : xm_I) := rfl
theorem r_X11_leadsBy_7 : co_X11_leadsBy[7]? = some ((9, .if_icmp .eq 37, 0, 0, 28, 0, 0, 0, []) : xm_I) := rfl
theorem r_X11_leadsBy_8 : co_X11_leadsBy[8]? = some ((12, .aload_n 0, 0, 0, 0, 0, 0, 0, []) : xm_I) := rfl
theorem r_X11_leadsBy_9 : co_X11_leadsBy[9]? = some ((13, .getfield 35, 1400, 10, 20, 2, 0, 0, []) : xm_I) := rfl
theorem r_X11_leadsBy_10 : co_X11_leadsBy[10]? = some ((16, .iload_n 3, 0, 0, 0, 0, 0, 0, []) : xm_I) := rfl
theorem r_X11_leadsBy_11 : co_X11_leadsBy[11]? = some ((17, .iaload, 0, 0, 0, 0, 0, 0, []) : xm_I) := rfl
theorem r_X11_leadsBy_12 : co_X11_leadsBy[12]? = some ((18, .aload_n 0, 0, 0, 0, 0, 0, 0, []) : xm_I) := rfl
theorem r_X11_leadsBy_13 : co_X11_leadsBy[13]? = some ((19, .getfield 35, 1400, 10, 20, 2, 0, 0, []) : xm_I) := rfl
theorem r_X11_leadsBy_14 : co_X11_leadsBy[14]? = some ((22, .iload_n 1, 0, 0, 0, 0, 0, 0, []) : xm_I) := rfl
theorem r_X11_leadsBy_15 : co_X11_leadsBy[15]? = some ((23, .iaload, 0, 0, 0, 0, 0, 0, []) : xm_I) := rfl
theorem r_X11_leadsBy_16 : co_X11_leadsBy[16]? = some ((24, .aload_n 0, 0, 0, 0, 0, 0, 0, []) : xm_I) := rfl
theorem r_X11_leadsBy_17 : co_X11_leadsBy[17]? = some ((25, .iload_n 2, 0, 0, 0, 0, 0, 0, []) : xm_I) := rfl
theorem r_X11_leadsBy_18 : co_X11_leadsBy[18]? = some ((26, .invokevirtual 399, 1831, 265, 2, 10, 0, 0, []) : xm_I) := rfl
theorem r_X11_leadsBy_19 : co_X11_leadsBy[19]? = some ((29, .iadd, 0, 0, 0, 0, 0, 0, []) : xm_I) := rfl
theorem r_X11_leadsBy_20 : co_X11_leadsBy[20]? = some ((30, .if_icmp .ne 16, 0, 0, 28, 0, 0, 0, []) : xm_I) := rfl
theorem r_X11_leadsBy_21 : co_X11_leadsBy[21]? = some ((33, .aload_n 0, 0, 0, 0, 0, 0, 0, []) : xm_I) := rfl
theorem r_X11_leadsBy_22 : co_X11_leadsBy[22]? = some ((34, .getfield 38, 1401, 10, 21, 2, 0, 0, []) : xm_I) := rfl
theorem r_X11_leadsBy_23 : co_X11_leadsBy[23]? = some ((37, .iload_n 3, 0, 0, 0, 0, 0, 0, []) : xm_I) := rfl
theorem r_X11_leadsBy_24 : co_X11_leadsBy[24]? = some ((38, .baload, 0, 0, 0, 0, 0, 0, []) : xm_I) := rfl
theorem r_X11_leadsBy_25 : co_X11_leadsBy[25]? = some ((39, .ifCond .eq 7, 0, 0, 28, 0, 0, 0, []) : xm_I) := rfl
theorem r_X11_leadsBy_26 : co_X11_leadsBy[26]? = some ((42, .iconst 1, 0, 0, 0, 0, 1, 0, []) : xm_I) := rfl
theorem r_X11_leadsBy_27 : co_X11_leadsBy[27]? = some ((43, .goto 4, 0, 0, 29, 0, 0, 0, []) : xm_I) := rfl
theorem r_X11_leadsBy_28 : co_X11_leadsBy[28]? = some ((46, .iconst 0, 0, 0, 0, 0, 0, 0, []) : xm_I) := rfl
theorem r_X11_leadsBy_29 : co_X11_leadsBy[29]? = some ((47, .ireturn, 0, 0, 0, 3, 0, 0, []) : xm_I) := rfl
theorem p_X11_leadsBy_0_0 {X : xm_X} {P : List xm_M} {d : Nat} {h : xm_H} {l0 : Nat} {l1 : Int32} {l2 : Int32} {h0 : xm_H} {r0 : Int32} (q0 : xm_V X P d 263 [.ref l0, .int l1, .int l2] h (some (.int r0)) h0) (q1 : X.1[l0]? = some (.inr 10)) (q2 : r0 = (-1 : Int32)) : xm_E X P d co_X11_leadsBy 0 [some (.ref l0), some (.int l1), some (.int l2), none] [] h (some (.int (0 : Int32))) h0 := by
  refine xm_E_s r_X11_leadsBy_0 rfl rfl ?_
  refine xm_E_s r_X11_leadsBy_1 rfl rfl ?_
  refine xm_E_s r_X11_leadsBy_2 rfl rfl ?_
  refine xm_E_cv [.ref l0, .int l1, .int l2] [] r_X11_leadsBy_3 rfl rfl (Nat.le_of_ble_eq_true rfl) (xm_rc q1 (by decide)) rfl q0 ?_
  refine xm_E_s (ls1 := [some (.ref l0), some (.int l1), some (.int l2), some (.int r0)]) r_X11_leadsBy_4 rfl rfl ?_
  refine xm_E_s r_X11_leadsBy_5 rfl rfl ?_
  refine xm_E_s r_X11_leadsBy_6 rfl rfl ?_
  refine xm_E_s r_X11_leadsBy_7 rfl rfl ?_
  refine xm_E_t q2 ?_
  refine xm_E_s r_X11_leadsBy_28 rfl rfl ?_
  exact xm_E_iret r_X11_leadsBy_29 rfl rfl
theorem p_X11_leadsBy_0_1 {X : xm_X} {P : List xm_M} {d : Nat} {h : xm_H} {l0 : Nat} {l1 : Int32} {l2 : Int32} {h0 : xm_H} {r0 : Int32} {v1 : Nat} {n2 : Nat} {h3 : xm_H} {r3 : Int32} {v4 : Nat} {n5 : Nat} {b5 : Nat} (q0 : xm_V X P d 263 [.ref l0, .int l1, .int l2] h (some (.int r0)) h0) (q1 : X.1[l0]? = some (.inr 10)) (q2 : ¬ (r0 = (-1 : Int32))) (q3 : h0.2.2 l0 20 = some v1) (q4 : X.1[v1]? = some (.inl (0, n2))) (q5 : ¬ (r0 < 0 ∨ n2 ≤ r0.toNatClampNeg)) (q6 : ¬ (l1 < 0 ∨ n2 ≤ l1.toNatClampNeg)) (q7 : xm_V X P d 265 [.ref l0, .int l2] h0 (some (.int r3)) h3) (q8 : h0.1 v1 r0.toNatClampNeg = (h0.1 v1 l1.toNatClampNeg) + r3) (q9 : h3.2.2 l0 21 = some v4) (q10 : X.1[v4]? = some (.inl (b5, n5))) (q11 : ¬ (r0 < 0 ∨ n5 ≤ r0.toNatClampNeg)) (q12 : 1 ≤ b5 ∧ b5 ≤ 2) (q13 : h3.1 v4 r0.toNatClampNeg = (0 : Int32)) : xm_E X P d co_X11_leadsBy 0 [some (.ref l0), some (.int l1), some (.int l2), none] [] h (some (.int (0 : Int32))) h3 := by
  refine xm_E_s r_X11_leadsBy_0 rfl rfl ?_
  refine xm_E_s r_X11_leadsBy_1 rfl rfl ?_
  refine xm_E_s r_X11_leadsBy_2 rfl rfl ?_
  refine xm_E_cv [.ref l0, .int l1, .int l2] [] r_X11_leadsBy_3 rfl rfl (Nat.le_of_ble_eq_true rfl) (xm_rc q1 (by decide)) rfl q0 ?_
  refine xm_E_s (ls1 := [some (.ref l0), some (.int l1), some (.int l2), some (.int r0)]) r_X11_leadsBy_4 rfl rfl ?_
  refine xm_E_s r_X11_leadsBy_5 rfl rfl ?_
  refine xm_E_s r_X11_leadsBy_6 rfl rfl ?_
  refine xm_E_s r_X11_leadsBy_7 rfl rfl ?_
  refine xm_E_f q2 ?_
  refine xm_E_s r_X11_leadsBy_8 rfl rfl ?_
  refine xm_E_s r_X11_leadsBy_9 rfl (xm_T_gr rfl q1 rfl rfl q3) ?_
  refine xm_E_s r_X11_leadsBy_10 rfl rfl ?_
  refine xm_E_s r_X11_leadsBy_11 rfl (xm_T_iald rfl q4 (by decide) q5) ?_
  refine xm_E_s r_X11_leadsBy_12 rfl rfl ?_
  refine xm_E_s r_X11_leadsBy_13 rfl (xm_T_gr rfl q1 rfl rfl q3) ?_
  refine xm_E_s r_X11_leadsBy_14 rfl rfl ?_
  refine xm_E_s r_X11_leadsBy_15 rfl (xm_T_iald rfl q4 (by decide) q6) ?_
  refine xm_E_s r_X11_leadsBy_16 rfl rfl ?_
  refine xm_E_s r_X11_leadsBy_17 rfl rfl ?_
  refine xm_E_cv [.ref l0, .int l2] [.int (h0.1 v1 l1.toNatClampNeg), .int (h0.1 v1 r0.toNatClampNeg)] r_X11_leadsBy_18 rfl rfl (Nat.le_of_ble_eq_true rfl) (xm_rc q1 (by decide)) rfl q7 ?_
  refine xm_E_s r_X11_leadsBy_19 rfl rfl ?_
  refine xm_E_s r_X11_leadsBy_20 rfl rfl ?_
  refine xm_E_t q8 ?_
  refine xm_E_s r_X11_leadsBy_21 rfl rfl ?_
  refine xm_E_s r_X11_leadsBy_22 rfl (xm_T_gr rfl q1 rfl rfl q9) ?_
  refine xm_E_s r_X11_leadsBy_23 rfl rfl ?_
  refine xm_E_s r_X11_leadsBy_24 rfl (xm_T_bald rfl q10 q12 q11) ?_
  refine xm_E_s r_X11_leadsBy_25 rfl rfl ?_
  refine xm_E_t q13 ?_
  refine xm_E_s r_X11_leadsBy_28 rfl rfl ?_
  exact xm_E_iret r_X11_leadsBy_29 rfl rfl
theorem p_X11_leadsBy_0_2 {X : xm_X} {P : List xm_M} {d : Nat} {h : xm_H} {l0 : Nat} {l1 : Int32} {l2 : Int32} {h0 : xm_H} {r0 : Int32} {v1 : Nat} {n2 : Nat} {h3 : xm_H} {r3 : Int32} {v4 : Nat} {n5 : Nat} {b5 : Nat} (q0 : xm_V X P d 263 [.ref l0, .int l1, .int l2] h (some (.int r0)) h0) (q1 : X.1[l0]? = some (.inr 10)) (q2 : ¬ (r0 = (-1 : Int32))) (q3 : h0.2.2 l0 20 = some v1) (q4 : X.1[v1]? = some (.inl (0, n2))) (q5 : ¬ (r0 < 0 ∨ n2 ≤ r0.toNatClampNeg)) (q6 : ¬ (l1 < 0 ∨ n2 ≤ l1.toNatClampNeg)) (q7 : xm_V X P d 265 [.ref l0, .int l2] h0 (some (.int r3)) h3) (q8 : h0.1 v1 r0.toNatClampNeg = (h0.1 v1 l1.toNatClampNeg) + r3) (q9 : h3.2.2 l0 21 = some v4) (q10 : X.1[v4]? = some (.inl (b5, n5))) (q11 : ¬ (r0 < 0 ∨ n5 ≤ r0.toNatClampNeg)) (q12 : 1 ≤ b5 ∧ b5 ≤ 2) (q13 : ¬ (h3.1 v4 r0.toNatClampNeg = (0 : Int32))) : xm_E X P d co_X11_leadsBy 0 [some (.ref l0), some (.int l1), some (.int l2), none] [] h (some (.int (1 : Int32))) h3 := by
  refine xm_E_s r_X11_leadsBy_0 rfl rfl ?_
  refine xm_E_s r_X11_leadsBy_1 rfl rfl ?_
  refine xm_E_s r_X11_leadsBy_2 rfl rfl ?_
  refine xm_E_cv [.ref l0, .int l1, .int l2] [] r_X11_leadsBy_3 rfl rfl (Nat.le_of_ble_eq_true rfl) (xm_rc q1 (by decide)) rfl q0 ?_
  refine xm_E_s (ls1 := [some (.ref l0), some (.int l1), some (.int l2), some (.int r0)]) r_X11_leadsBy_4 rfl rfl ?_
  refine xm_E_s r_X11_leadsBy_5 rfl rfl ?_
  refine xm_E_s r_X11_leadsBy_6 rfl rfl ?_
  refine xm_E_s r_X11_leadsBy_7 rfl rfl ?_
  refine xm_E_f q2 ?_
  refine xm_E_s r_X11_leadsBy_8 rfl rfl ?_
  refine xm_E_s r_X11_leadsBy_9 rfl (xm_T_gr rfl q1 rfl rfl q3) ?_
  refine xm_E_s r_X11_leadsBy_10 rfl rfl ?_
  refine xm_E_s r_X11_leadsBy_11 rfl (xm_T_iald rfl q4 (by decide) q5) ?_
  refine xm_E_s r_X11_leadsBy_12 rfl rfl ?_
  refine xm_E_s r_X11_leadsBy_13 rfl (xm_T_gr rfl q1 rfl rfl q3) ?_
  refine xm_E_s r_X11_leadsBy_14 rfl rfl ?_
  refine xm_E_s r_X11_leadsBy_15 rfl (xm_T_iald rfl q4 (by decide) q6) ?_
  refine xm_E_s r_X11_leadsBy_16 rfl rfl ?_
  refine xm_E_s r_X11_leadsBy_17 rfl rfl ?_
  refine xm_E_cv [.ref l0, .int l2] [.int (h0.1 v1 l1.toNatClampNeg), .int (h0.1 v1 r0.toNatClampNeg)] r_X11_leadsBy_18 rfl rfl (Nat.le_of_ble_eq_true rfl) (xm_rc q1 (by decide)) rfl q7 ?_
  refine xm_E_s r_X11_leadsBy_19 rfl rfl ?_
  refine xm_E_s r_X11_leadsBy_20 rfl rfl ?_
  refine xm_E_t q8 ?_
  refine xm_E_s r_X11_leadsBy_21 rfl rfl ?_
  refine xm_E_s r_X11_leadsBy_22 rfl (xm_T_gr rfl q1 rfl rfl q9) ?_
  refine xm_E_s r_X11_leadsBy_23 rfl rfl ?_
  refine xm_E_s r_X11_leadsBy_24 rfl (xm_T_bald rfl q10 q12 q11) ?_
  refine xm_E_s r_X11_leadsBy_25 rfl rfl ?_
  refine xm_E_f q13 ?_
  refine xm_E_s r_X11_leadsBy_26 rfl rfl ?_
  refine xm_E_s r_X11_leadsBy_27 rfl rfl ?_
  exact xm_E_iret r_X11_leadsBy_29 rfl rfl
theorem p_X11_leadsBy_0_3 {X : xm_X} {P : List xm_M} {d : Nat} {h : xm_H} {l0 : Nat} {l1 : Int32} {l2 : Int32} {h0 : xm_H} {r0 : Int32} {v1 : Nat} {n2 : Nat} {h3 : xm_H} {r3 : Int32} (q0 : xm_V X P d 263 [.ref l0, .int l1, .int l2] h (some (.int r0)) h0) (q1 : X.1[l0]? = some (.inr 10)) (q2 : ¬ (r0 = (-1 : Int32))) (q3 : h0.2.2 l0 20 = some v1) (q4 : X.1[v1]? = some (.inl (0, n2))) (q5 : ¬ (r0 < 0 ∨ n2 ≤ r0.toNatClampNeg)) (q6 : ¬ (l1 < 0 ∨ n2 ≤ l1.toNatClampNeg)) (q7 : xm_V X P d 265 [.ref l0, .int l2] h0 (some (.int r3)) h3) (q8 : ¬ (h0.1 v1 r0.toNatClampNeg = (h0.1 v1 l1.toNatClampNeg) + r3)) : xm_E X P d co_X11_leadsBy 0 [some (.ref l0), some (.int l1), some (.int l2), none] [] h (some (.int (0 : Int32))) h3 := by
  refine xm_E_s r_X11_leadsBy_0 rfl rfl ?_
  refine xm_E_s r_X11_leadsBy_1 rfl rfl ?_
  refine xm_E_s r_X11_leadsBy_2 rfl rfl ?_
  refine xm_E_cv [.ref l0, .int l1, .int l2] [] r_X11_leadsBy_3 rfl rfl (Nat.le_of_ble_eq_true rfl) (xm_rc q1 (by decide)) rfl q0 ?_
  refine xm_E_s (ls1 := [some (.ref l0), some (.int l1), some (.int l2), some (.int r0)]) r_X11_leadsBy_4 rfl rfl ?_
  refine xm_E_s r_X11_leadsBy_5 rfl rfl ?_
  refine xm_E_s r_X11_leadsBy_6 rfl rfl ?_
  refine xm_E_s r_X11_leadsBy_7 rfl rfl ?_
  refine xm_E_f q2 ?_
  refine xm_E_s r_X11_leadsBy_8 rfl rfl ?_
  refine xm_E_s r_X11_leadsBy_9 rfl (xm_T_gr rfl q1 rfl rfl q3) ?_
  refine xm_E_s r_X11_leadsBy_10 rfl rfl ?_
  refine xm_E_s r_X11_leadsBy_11 rfl (xm_T_iald rfl q4 (by decide) q5) ?_
  refine xm_E_s r_X11_leadsBy_12 rfl rfl ?_
  refine xm_E_s r_X11_leadsBy_13 rfl (xm_T_gr rfl q1 rfl rfl q3) ?_
  refine xm_E_s r_X11_leadsBy_14 rfl rfl ?_
  refine xm_E_s r_X11_leadsBy_15 rfl (xm_T_iald rfl q4 (by decide) q6) ?_
  refine xm_E_s r_X11_leadsBy_16 rfl rfl ?_
  refine xm_E_s r_X11_leadsBy_17 rfl rfl ?_
  refine xm_E_cv [.ref l0, .int l2] [.int (h0.1 v1 l1.toNatClampNeg), .int (h0.1 v1 r0.toNatClampNeg)] r_X11_leadsBy_18 rfl rfl (Nat.le_of_ble_eq_true rfl) (xm_rc q1 (by decide)) rfl q7 ?_
  refine xm_E_s r_X11_leadsBy_19 rfl rfl ?_
  refine xm_E_s r_X11_leadsBy_20 rfl rfl ?_
  refine xm_E_f q8 ?_
  refine xm_E_s r_X11_leadsBy_28 rfl rfl ?_
  exact xm_E_iret r_X11_leadsBy_29 rfl rfl
theorem r_X11_quickest_0 : co_X11_quickest[0]? = some ((0, .aload_n 0, 0, 0, 0, 0, 0, 0, []) : xm_I) := rfl
theorem r_X11_quickest_1 : co_X11_quickest[1]? = some ((1, .invokevirtual 420, 1802, 258, 1, 10, 0, 0, []) : xm_I) := rfl
theorem r_X11_quickest_2 : co_X11_quickest[2]? = some ((4, .ifCond .eq 19, 0, 0, 13, 0, 0, 0, []) : xm_I) := rfl
theorem r_X11_quickest_3 : co_X11_quickest[3]? = some ((7, .aload_n 0, 0, 0, 0, 0, 0, 0, []) : xm_I) := rfl
theorem r_X11_quickest_4 : co_X11_quickest[4]? = some ((8, .aload_n 0, 0, 0, 0, 0, 0, 0, []) : xm_I) := rfl
theorem r_X11_quickest_5 : co_X11_quickest[5]? = some ((9, .getfield 9, 1381, 10, 1, 2, 0, 0, []) : xm_I) := rfl
theorem r_X11_quickest_6 : co_X11_quickest[6]? = some ((12, .iconst 3, 0, 0, 0, 0, 3, 0, []) : xm_I) := rfl
theorem r_X11_quickest_7 : co_X11_quickest[7]? = some ((13, .iaload, 0, 0, 0, 0, 0, 0, []) : xm_I) := rfl
theorem r_X11_quickest_8 : co_X11_quickest[8]? = some ((14, .iconst 0, 0, 0, 0, 0, 0, 0, []) : xm_I) := rfl
theorem r_X11_quickest_9 : co_X11_quickest[9]? = some ((15, .iconst (-1), 0, 0, 0, 0, (-1), 0, []) : xm_I) := rfl
theorem r_X11_quickest_10 : co_X11_quickest[10]? = some ((16, .iconst 1, 0, 0, 0, 0, 1, 0, []) : xm_I) := rfl
theorem r_X11_quickest_11 : co_X11_quickest[11]? = some ((17, .invokevirtual 423, 1810, 260, 5, 10, 0, 0, []) : xm_I) := rfl
theorem r_X11_quickest_12 : co_X11_quickest[12]? = some ((20, .goto 5, 0, 0, 14, 0, 0, 0, []) : xm_I) := rfl
theorem r_X11_quickest_13 : co_X11_quickest[13]? = some ((23, .bipush (-2), 0, 0, 0, 0, (-2), 0, []) : xm_I) := rfl
theorem r_X11_quickest_14 : co_X11_quickest[14]? = some ((25, .ireturn, 0, 0, 0, 0, 0, 0, []) : xm_I) := rfl
theorem p_X11_quickest_0_0 {X : xm_X} {P : List xm_M} {d : Nat} {h : xm_H} {l0 : Nat} {h0 : xm_H} {r0 : Int32} (q0 : xm_V X P d 258 [.ref l0] h (some (.int r0)) h0) (q1 : X.1[l0]? = some (.inr 10)) (q2 : r0 = (0 : Int32)) : xm_E X P d co_X11_quickest 0 [some (.ref l0)] [] h (some (.int (-2 : Int32))) h0 := by
  refine xm_E_s r_X11_quickest_0 rfl rfl ?_
  refine xm_E_cv [.ref l0] [] r_X11_quickest_1 rfl rfl (Nat.le_of_ble_eq_true rfl) (xm_rc q1 (by decide)) rfl q0 ?_
  refine xm_E_s r_X11_quickest_2 rfl rfl ?_
  refine xm_E_t q2 ?_
  refine xm_E_s r_X11_quickest_13 rfl rfl ?_
  exact xm_E_iret r_X11_quickest_14 rfl rfl
theorem p_X11_quickest_0_1 {X : xm_X} {P : List xm_M} {d : Nat} {h : xm_H} {l0 : Nat} {h0 : xm_H} {r0 : Int32} {v1 : Nat} {n2 : Nat} {h3 : xm_H} {r3 : Int32} (q0 : xm_V X P d 258 [.ref l0] h (some (.int r0)) h0) (q1 : X.1[l0]? = some (.inr 10)) (q2 : ¬ (r0 = (0 : Int32))) (q3 : h0.2.2 l0 1 = some v1) (q4 : X.1[v1]? = some (.inl (0, n2))) (q5 : 3 < n2) (q6 : xm_V X P d 260 [.ref l0, .int (h0.1 v1 3), .int (0 : Int32), .int (-1 : Int32), .int (1 : Int32)] h0 (some (.int r3)) h3) : xm_E X P d co_X11_quickest 0 [some (.ref l0)] [] h (some (.int r3)) h3 := by
  refine xm_E_s r_X11_quickest_0 rfl rfl ?_
  refine xm_E_cv [.ref l0] [] r_X11_quickest_1 rfl rfl (Nat.le_of_ble_eq_true rfl) (xm_rc q1 (by decide)) rfl q0 ?_
  refine xm_E_s r_X11_quickest_2 rfl rfl ?_
  refine xm_E_f q2 ?_
  refine xm_E_s r_X11_quickest_3 rfl rfl ?_
  refine xm_E_s r_X11_quickest_4 rfl rfl ?_
  refine xm_E_s r_X11_quickest_5 rfl (xm_T_gr rfl q1 rfl rfl q3) ?_
  refine xm_E_s r_X11_quickest_6 rfl rfl ?_
  refine xm_E_s r_X11_quickest_7 rfl (xm_T_iald rfl q4 (by decide) (fun e => e.elim (fun e => absurd e (by decide)) (fun e => Nat.not_le.mpr q5 e))) ?_
  refine xm_E_s r_X11_quickest_8 rfl rfl ?_
  refine xm_E_s r_X11_quickest_9 rfl rfl ?_
  refine xm_E_s r_X11_quickest_10 rfl rfl ?_
  refine xm_E_cv [.ref l0, .int (h0.1 v1 3), .int (0 : Int32), .int (-1 : Int32), .int (1 : Int32)] [] r_X11_quickest_11 rfl rfl (Nat.le_of_ble_eq_true rfl) (xm_rc q1 (by decide)) rfl q6 ?_
  refine xm_E_s r_X11_quickest_12 rfl rfl ?_
  exact xm_E_iret r_X11_quickest_14 rfl rfl
theorem r_X11_quick_0 : co_X11_quick[0]? = some ((0, .aload_n 0, 0, 0, 0, 0, 0, 0, []) : xm_I) := rfl
theorem r_X11_quick_1 : co_X11_quick[1]? = some ((1, .invokevirtual 420, 1802, 258, 1, 10, 0, 0, []) : xm_I) := rfl
theorem r_X11_quick_2 : co_X11_quick[2]? = some ((4, .ifCond .ne 6, 0, 0, 5, 0, 0, 0, []) : xm_I) := rfl
theorem r_X11_quick_3 : co_X11_quick[3]? = some ((7, .bipush (-2), 0, 0, 0, 0, (-2), 0, []) : xm_I) := rfl
theorem r_X11_quick_4 : co_X11_quick[4]? = some ((9, .ireturn, 0, 0, 0, 0, 0, 0, []) : xm_I) := rfl
theorem r_X11_quick_5 : co_X11_quick[5]? = some ((10, .aload_n 0, 0, 0, 0, 0, 0, 0, []) : xm_I) := rfl
theorem r_X11_quick_6 : co_X11_quick[6]? = some ((11, .aload_n 0, 0, 0, 0, 0, 0, 0, []) : xm_I) := rfl
theorem r_X11_quick_7 : co_X11_quick[7]? = some ((12, .getfield 9, 1381, 10, 1, 2, 0, 0, []) : xm_I) := rfl
theorem r_X11_quick_8 : co_X11_quick[8]? = some ((15, .iconst 3, 0, 0, 0, 0, 3, 0, []) : xm_I) := rfl
theorem r_X11_quick_9 : co_X11_quick[9]? = some ((16, .iaload, 0, 0, 0, 0, 0, 0, []) : xm_I) := rfl
theorem r_X11_quick_10 : co_X11_quick[10]? = some ((17, .iconst 0, 0, 0, 0, 0, 0, 0, []) : xm_I) := rfl
theorem r_X11_quick_11 : co_X11_quick[11]? = some ((18, .iconst (-1), 0, 0, 0, 0, (-1), 0, []) : xm_I) := rfl
theorem r_X11_quick_12 : co_X11_quick[12]? = some ((19, .iconst 1, 0, 0, 0, 0, 1, 0, []) : xm_I) := rfl
theorem r_X11_quick_13 : co_X11_quick[13]? = some ((20, .invokevirtual 423, 1810, 260, 5, 10, 0, 0, []) : xm_I) := rfl
theorem r_X11_quick_14 : co_X11_quick[14]? = some ((23, .pop, 0, 0, 0, 0, 0, 0, []) : xm_I) := rfl
theorem r_X11_quick_15 : co_X11_quick[15]? = some ((24, .aload_n 0, 0, 0, 0, 0, 0, 0, []) : xm_I) := rfl
theorem r_X11_quick_16 : co_X11_quick[16]? = some ((25, .iload_n 1, 0, 0, 0, 0, 0, 0, []) : xm_I) := rfl
theorem r_X11_quick_17 : co_X11_quick[17]? = some ((26, .invokevirtual 427, 1847, 269, 2, 10, 0, 0, []) : xm_I) := rfl
theorem r_X11_quick_18 : co_X11_quick[18]? = some ((29, .ireturn, 0, 0, 0, 0, 0, 0, []) : xm_I) := rfl
theorem p_X11_quick_0_0 {X : xm_X} {P : List xm_M} {d : Nat} {h : xm_H} {l0 : Nat} {l1 : Int32} {h0 : xm_H} {r0 : Int32} (q0 : xm_V X P d 258 [.ref l0] h (some (.int r0)) h0) (q1 : X.1[l0]? = some (.inr 10)) (q2 : r0 = (0 : Int32)) : xm_E X P d co_X11_quick 0 [some (.ref l0), some (.int l1)] [] h (some (.int (-2 : Int32))) h0 := by
  refine xm_E_s r_X11_quick_0 rfl rfl ?_
  refine xm_E_cv [.ref l0] [] r_X11_quick_1 rfl rfl (Nat.le_of_ble_eq_true rfl) (xm_rc q1 (by decide)) rfl q0 ?_
  refine xm_E_s r_X11_quick_2 rfl rfl ?_
  refine xm_E_t q2 ?_
  refine xm_E_s r_X11_quick_3 rfl rfl ?_
  exact xm_E_iret r_X11_quick_4 rfl rfl
theorem p_X11_quick_0_1 {X : xm_X} {P : List xm_M} {d : Nat} {h : xm_H} {l0 : Nat} {l1 : Int32} {h0 : xm_H} {r0 : Int32} {v1 : Nat} {n2 : Nat} {h3 : xm_H} {r3 : Int32} {h4 : xm_H} {r4 : Int32} (q0 : xm_V X P d 258 [.ref l0] h (some (.int r0)) h0) (q1 : X.1[l0]? = some (.inr 10)) (q2 : ¬ (r0 = (0 : Int32))) (q3 : h0.2.2 l0 1 = some v1) (q4 : X.1[v1]? = some (.inl (0, n2))) (q5 : 3 < n2) (q6 : xm_V X P d 260 [.ref l0, .int (h0.1 v1 3), .int (0 : Int32), .int (-1 : Int32), .int (1 : Int32)] h0 (some (.int r3)) h3) (q7 : xm_V X P d 269 [.ref l0, .int l1] h3 (some (.int r4)) h4) : xm_E X P d co_X11_quick 0 [some (.ref l0), some (.int l1)] [] h (some (.int r4)) h4 := by
  refine xm_E_s r_X11_quick_0 rfl rfl ?_
  refine xm_E_cv [.ref l0] [] r_X11_quick_1 rfl rfl (Nat.le_of_ble_eq_true rfl) (xm_rc q1 (by decide)) rfl q0 ?_
  refine xm_E_s r_X11_quick_2 rfl rfl ?_
  refine xm_E_f q2 ?_
  refine xm_E_s r_X11_quick_5 rfl rfl ?_
  refine xm_E_s r_X11_quick_6 rfl rfl ?_
  refine xm_E_s r_X11_quick_7 rfl (xm_T_gr rfl q1 rfl rfl q3) ?_
  refine xm_E_s r_X11_quick_8 rfl rfl ?_
  refine xm_E_s r_X11_quick_9 rfl (xm_T_iald rfl q4 (by decide) (fun e => e.elim (fun e => absurd e (by decide)) (fun e => Nat.not_le.mpr q5 e))) ?_
  refine xm_E_s r_X11_quick_10 rfl rfl ?_
  refine xm_E_s r_X11_quick_11 rfl rfl ?_
  refine xm_E_s r_X11_quick_12 rfl rfl ?_
  refine xm_E_cv [.ref l0, .int (h0.1 v1 3), .int (0 : Int32), .int (-1 : Int32), .int (1 : Int32)] [] r_X11_quick_13 rfl rfl (Nat.le_of_ble_eq_true rfl) (xm_rc q1 (by decide)) rfl q6 ?_
  refine xm_E_s r_X11_quick_14 rfl rfl ?_
  refine xm_E_s r_X11_quick_15 rfl rfl ?_
  refine xm_E_s r_X11_quick_16 rfl rfl ?_
  refine xm_E_cv [.ref l0, .int l1] [] r_X11_quick_17 rfl rfl (Nat.le_of_ble_eq_true rfl) (xm_rc q1 (by decide)) rfl q7 ?_
  exact xm_E_iret r_X11_quick_18 rfl rfl
theorem r_X11_alone_0 : co_X11_alone[0]? = some ((0, .aload_n 0, 0, 0, 0, 0, 0, 0, []) : xm_I) := rfl
theorem r_X11_alone_1 : co_X11_alone[1]? = some ((1, .invokevirtual 420, 1802, 258, 1, 10, 0, 0, []) : xm_I) := rfl
theorem r_X11_alone_2 : co_X11_alone[2]? = some ((4, .ifCond .eq 19, 0, 0, 13, 0, 0, 0, []) : xm_I) := rfl
theorem r_X11_alone_3 : co_X11_alone[3]? = some ((7, .aload_n 0, 0, 0, 0, 0, 0, 0, []) : xm_I) := rfl
theorem r_X11_alone_4 : co_X11_alone[4]? = some ((8, .aload_n 0, 0, 0, 0, 0, 0, 0, []) : xm_I) := rfl
theorem r_X11_alone_5 : co_X11_alone[5]? = some ((9, .getfield 9, 1381, 10, 1, 2, 0, 0, []) : xm_I) := rfl
theorem r_X11_alone_6 : co_X11_alone[6]? = some ((12, .iconst 3, 0, 0, 0, 0, 3, 0, []) : xm_I) := rfl
theorem r_X11_alone_7 : co_X11_alone[7]? = some ((13, .iaload, 0, 0, 0, 0, 0, 0, []) : xm_I) := rfl
theorem r_X11_alone_8 : co_X11_alone[8]? = some ((14, .iconst 1, 0, 0, 0, 0, 1, 0, []) : xm_I) := rfl
theorem r_X11_alone_9 : co_X11_alone[9]? = some ((15, .iconst (-1), 0, 0, 0, 0, (-1), 0, []) : xm_I) := rfl
theorem r_X11_alone_10 : co_X11_alone[10]? = some ((16, .iconst 0, 0, 0, 0, 0, 0, 0, []) : xm_I) := rfl
theorem r_X11_alone_11 : co_X11_alone[11]? = some ((17, .invokevirtual 423, 1810, 260, 5, 10, 0, 0, []) : xm_I) := rfl
theorem r_X11_alone_12 : co_X11_alone[12]? = some ((20, .goto 5, 0, 0, 14, 0, 0, 0, []) : xm_I) := rfl
theorem r_X11_alone_13 : co_X11_alone[13]? = some ((23, .bipush (-2), 0, 0, 0, 0, (-2), 0, []) : xm_I) := rfl
theorem r_X11_alone_14 : co_X11_alone[14]? = some ((25, .ireturn, 0, 0, 0, 0, 0, 0, []) : xm_I) := rfl
theorem p_X11_alone_0_0 {X : xm_X} {P : List xm_M} {d : Nat} {h : xm_H} {l0 : Nat} {h0 : xm_H} {r0 : Int32} (q0 : xm_V X P d 258 [.ref l0] h (some (.int r0)) h0) (q1 : X.1[l0]? = some (.inr 10)) (q2 : r0 = (0 : Int32)) : xm_E X P d co_X11_alone 0 [some (.ref l0)] [] h (some (.int (-2 : Int32))) h0 := by
  refine xm_E_s r_X11_alone_0 rfl rfl ?_
  refine xm_E_cv [.ref l0] [] r_X11_alone_1 rfl rfl (Nat.le_of_ble_eq_true rfl) (xm_rc q1 (by decide)) rfl q0 ?_
  refine xm_E_s r_X11_alone_2 rfl rfl ?_
  refine xm_E_t q2 ?_
  refine xm_E_s r_X11_alone_13 rfl rfl ?_
  exact xm_E_iret r_X11_alone_14 rfl rfl
theorem p_X11_alone_0_1 {X : xm_X} {P : List xm_M} {d : Nat} {h : xm_H} {l0 : Nat} {h0 : xm_H} {r0 : Int32} {v1 : Nat} {n2 : Nat} {h3 : xm_H} {r3 : Int32} (q0 : xm_V X P d 258 [.ref l0] h (some (.int r0)) h0) (q1 : X.1[l0]? = some (.inr 10)) (q2 : ¬ (r0 = (0 : Int32))) (q3 : h0.2.2 l0 1 = some v1) (q4 : X.1[v1]? = some (.inl (0, n2))) (q5 : 3 < n2) (q6 : xm_V X P d 260 [.ref l0, .int (h0.1 v1 3), .int (1 : Int32), .int (-1 : Int32), .int (0 : Int32)] h0 (some (.int r3)) h3) : xm_E X P d co_X11_alone 0 [some (.ref l0)] [] h (some (.int r3)) h3 := by
  refine xm_E_s r_X11_alone_0 rfl rfl ?_
  refine xm_E_cv [.ref l0] [] r_X11_alone_1 rfl rfl (Nat.le_of_ble_eq_true rfl) (xm_rc q1 (by decide)) rfl q0 ?_
  refine xm_E_s r_X11_alone_2 rfl rfl ?_
  refine xm_E_f q2 ?_
  refine xm_E_s r_X11_alone_3 rfl rfl ?_
  refine xm_E_s r_X11_alone_4 rfl rfl ?_
  refine xm_E_s r_X11_alone_5 rfl (xm_T_gr rfl q1 rfl rfl q3) ?_
  refine xm_E_s r_X11_alone_6 rfl rfl ?_
  refine xm_E_s r_X11_alone_7 rfl (xm_T_iald rfl q4 (by decide) (fun e => e.elim (fun e => absurd e (by decide)) (fun e => Nat.not_le.mpr q5 e))) ?_
  refine xm_E_s r_X11_alone_8 rfl rfl ?_
  refine xm_E_s r_X11_alone_9 rfl rfl ?_
  refine xm_E_s r_X11_alone_10 rfl rfl ?_
  refine xm_E_cv [.ref l0, .int (h0.1 v1 3), .int (1 : Int32), .int (-1 : Int32), .int (0 : Int32)] [] r_X11_alone_11 rfl rfl (Nat.le_of_ble_eq_true rfl) (xm_rc q1 (by decide)) rfl q6 ?_
  refine xm_E_s r_X11_alone_12 rfl rfl ?_
  exact xm_E_iret r_X11_alone_14 rfl rfl
theorem r_X11_rail_0 : co_X11_rail[0]? = some ((0, .aload_n 0, 0, 0, 0, 0, 0, 0, []) : xm_I) := rfl
theorem r_X11_rail_1 : co_X11_rail[1]? = some ((1, .invokevirtual 420, 1802, 258, 1, 10, 0, 0, []) : xm_I) := rfl
theorem r_X11_rail_2 : co_X11_rail[2]? = some ((4, .ifCond .ne 6, 0, 0, 5, 0, 0, 0, []) : xm_I) := rfl
theorem r_X11_rail_3 : co_X11_rail[3]? = some ((7, .bipush (-2), 0, 0, 0, 0, (-2), 0, []) : xm_I) := rfl
theorem r_X11_rail_4 : co_X11_rail[4]? = some ((9, .ireturn, 0, 0, 0, 0, 0, 0, []) : xm_I) := rfl
theorem r_X11_rail_5 : co_X11_rail[5]? = some ((10, .aload_n 0, 0, 0, 0, 0, 0, 0, []) : xm_I) := rfl
theorem r_X11_rail_6 : co_X11_rail[6]? = some ((11, .aload_n 0, 0, 0, 0, 0, 0, 0, []) : xm_I) := rfl
theorem r_X11_rail_7 : co_X11_rail[7]? = some ((12, .getfield 9, 1381, 10, 1, 2, 0, 0, []) : xm_I) := rfl
theorem r_X11_rail_8 : co_X11_rail[8]? = some ((15, .iconst 3, 0, 0, 0, 0, 3, 0, []) : xm_I) := rfl
theorem r_X11_rail_9 : co_X11_rail[9]? = some ((16, .iaload, 0, 0, 0, 0, 0, 0, []) : xm_I) := rfl
theorem r_X11_rail_10 : co_X11_rail[10]? = some ((17, .iconst 1, 0, 0, 0, 0, 1, 0, []) : xm_I) := rfl
theorem r_X11_rail_11 : co_X11_rail[11]? = some ((18, .iconst (-1), 0, 0, 0, 0, (-1), 0, []) : xm_I) := rfl
theorem r_X11_rail_12 : co_X11_rail[12]? = some ((19, .iconst 0, 0, 0, 0, 0, 0, 0, []) : xm_I) := rfl
theorem r_X11_rail_13 : co_X11_rail[13]? = some ((20, .invokevirtual 423, 1810, 260, 5, 10, 0, 0, []) : xm_I) := rfl
theorem r_X11_rail_14 : co_X11_rail[14]? = some ((23, .pop, 0, 0, 0, 0, 0, 0, []) : xm_I) := rfl
theorem r_X11_rail_15 : co_X11_rail[15]? = some ((24, .aload_n 0, 0, 0, 0, 0, 0, 0, []) : xm_I) := rfl
theorem r_X11_rail_16 : co_X11_rail[16]? = some ((25, .iload_n 1, 0, 0, 0, 0, 0, 0, []) : xm_I) := rfl
theorem r_X11_rail_17 : co_X11_rail[17]? = some ((26, .invokevirtual 427, 1847, 269, 2, 10, 0, 0, []) : xm_I) := rfl
theorem r_X11_rail_18 : co_X11_rail[18]? = some ((29, .ireturn, 0, 0, 0, 0, 0, 0, []) : xm_I) := rfl
theorem p_X11_rail_0_0 {X : xm_X} {P : List xm_M} {d : Nat} {h : xm_H} {l0 : Nat} {l1 : Int32} {h0 : xm_H} {r0 : Int32} (q0 : xm_V X P d 258 [.ref l0] h (some (.int r0)) h0) (q1 : X.1[l0]? = some (.inr 10)) (q2 : r0 = (0 : Int32)) : xm_E X P d co_X11_rail 0 [some (.ref l0), some (.int l1)] [] h (some (.int (-2 : Int32))) h0 := by
  refine xm_E_s r_X11_rail_0 rfl rfl ?_
  refine xm_E_cv [.ref l0] [] r_X11_rail_1 rfl rfl (Nat.le_of_ble_eq_true rfl) (xm_rc q1 (by decide)) rfl q0 ?_
  refine xm_E_s r_X11_rail_2 rfl rfl ?_
  refine xm_E_t q2 ?_
  refine xm_E_s r_X11_rail_3 rfl rfl ?_
  exact xm_E_iret r_X11_rail_4 rfl rfl
theorem p_X11_rail_0_1 {X : xm_X} {P : List xm_M} {d : Nat} {h : xm_H} {l0 : Nat} {l1 : Int32} {h0 : xm_H} {r0 : Int32} {v1 : Nat} {n2 : Nat} {h3 : xm_H} {r3 : Int32} {h4 : xm_H} {r4 : Int32} (q0 : xm_V X P d 258 [.ref l0] h (some (.int r0)) h0) (q1 : X.1[l0]? = some (.inr 10)) (q2 : ¬ (r0 = (0 : Int32))) (q3 : h0.2.2 l0 1 = some v1) (q4 : X.1[v1]? = some (.inl (0, n2))) (q5 : 3 < n2) (q6 : xm_V X P d 260 [.ref l0, .int (h0.1 v1 3), .int (1 : Int32), .int (-1 : Int32), .int (0 : Int32)] h0 (some (.int r3)) h3) (q7 : xm_V X P d 269 [.ref l0, .int l1] h3 (some (.int r4)) h4) : xm_E X P d co_X11_rail 0 [some (.ref l0), some (.int l1)] [] h (some (.int r4)) h4 := by
  refine xm_E_s r_X11_rail_0 rfl rfl ?_
  refine xm_E_cv [.ref l0] [] r_X11_rail_1 rfl rfl (Nat.le_of_ble_eq_true rfl) (xm_rc q1 (by decide)) rfl q0 ?_
  refine xm_E_s r_X11_rail_2 rfl rfl ?_
  refine xm_E_f q2 ?_
  refine xm_E_s r_X11_rail_5 rfl rfl ?_
  refine xm_E_s r_X11_rail_6 rfl rfl ?_
  refine xm_E_s r_X11_rail_7 rfl (xm_T_gr rfl q1 rfl rfl q3) ?_
  refine xm_E_s r_X11_rail_8 rfl rfl ?_
  refine xm_E_s r_X11_rail_9 rfl (xm_T_iald rfl q4 (by decide) (fun e => e.elim (fun e => absurd e (by decide)) (fun e => Nat.not_le.mpr q5 e))) ?_
  refine xm_E_s r_X11_rail_10 rfl rfl ?_
  refine xm_E_s r_X11_rail_11 rfl rfl ?_
  refine xm_E_s r_X11_rail_12 rfl rfl ?_
  refine xm_E_cv [.ref l0, .int (h0.1 v1 3), .int (1 : Int32), .int (-1 : Int32), .int (0 : Int32)] [] r_X11_rail_13 rfl rfl (Nat.le_of_ble_eq_true rfl) (xm_rc q1 (by decide)) rfl q6 ?_
  refine xm_E_s r_X11_rail_14 rfl rfl ?_
  refine xm_E_s r_X11_rail_15 rfl rfl ?_
  refine xm_E_s r_X11_rail_16 rfl rfl ?_
  refine xm_E_cv [.ref l0, .int l1] [] r_X11_rail_17 rfl rfl (Nat.le_of_ble_eq_true rfl) (xm_rc q1 (by decide)) rfl q7 ?_
  exact xm_E_iret r_X11_rail_18 rfl rfl
theorem r_X11_brief_0 : co_X11_brief[0]? = some ((0, .aload_n 0, 0, 0, 0, 0, 0, 0, []) : xm_I) := rfl
theorem r_X11_brief_1 : co_X11_brief[1]? = some ((1, .invokevirtual 420, 1802, 258, 1, 10, 0, 0, []) : xm_I) := rfl
theorem r_X11_brief_2 : co_X11_brief[2]? = some ((4, .ifCond .eq 26, 0, 0, 16, 0, 0, 0, []) : xm_I) := rfl
theorem r_X11_brief_3 : co_X11_brief[3]? = some ((7, .iload_n 1, 0, 0, 0, 0, 0, 0, []) : xm_I) := rfl
theorem r_X11_brief_4 : co_X11_brief[4]? = some ((8, .i2l, 0, 0, 0, 0, 0, 0, []) : xm_I) := rfl
theorem r_X11_brief_5 : co_X11_brief[5]? = some ((9, .lconst 1, 0, 0, 0, 0, 0, 1, []) : xm_I) := rfl
theorem r_X11_brief_6 : co_X11_brief[6]? = some ((10, .ldc2_w 430, 1879, 0, 0, 0, 0, 60, []) : xm_I) := rfl
theorem r_X11_brief_7 : co_X11_brief[7]? = some ((13, .invokestatic 84, 1503, 191, 3, 0, 0, 0, []) : xm_I) := rfl
theorem r_X11_brief_8 : co_X11_brief[8]? = some ((16, .ifCond .eq 14, 0, 0, 16, 0, 0, 0, []) : xm_I) := rfl
theorem r_X11_brief_9 : co_X11_brief[9]? = some ((19, .aload_n 0, 0, 0, 0, 0, 0, 0, []) : xm_I) := rfl
theorem r_X11_brief_10 : co_X11_brief[10]? = some ((20, .iload_n 1, 0, 0, 0, 0, 0, 0, []) : xm_I) := rfl
theorem r_X11_brief_11 : co_X11_brief[11]? = some ((21, .iconst 0, 0, 0, 0, 0, 0, 0, []) : xm_I) := rfl
theorem r_X11_brief_12 : co_X11_brief[12]? = some ((22, .iconst (-1), 0, 0, 0, 0, (-1), 0, []) : xm_I) := rfl
theorem r_X11_brief_13 : co_X11_brief[13]? = some ((23, .iconst 0, 0, 0, 0, 0, 0, 0, []) : xm_I) := rfl
theorem r_X11_brief_14 : co_X11_brief[14]? = some ((24, .invokevirtual 423, 1810, 260, 5, 10, 0, 0, []) : xm_I) := rfl
theorem r_X11_brief_15 : co_X11_brief[15]? = some ((27, .goto 5, 0, 0, 17, 0, 0, 0, []) : xm_I) := rfl
theorem r_X11_brief_16 : co_X11_brief[16]? = some ((30, .bipush (-2), 0, 0, 0, 0, (-2), 0, []) : xm_I) := rfl
theorem r_X11_brief_17 : co_X11_brief[17]? = some ((32, .ireturn, 0, 0, 0, 0, 0, 0, []) : xm_I) := rfl
theorem p_X11_brief_0_0 {X : xm_X} {P : List xm_M} {d : Nat} {h : xm_H} {l0 : Nat} {l1 : Int32} {h0 : xm_H} {r0 : Int32} (q0 : xm_V X P d 258 [.ref l0] h (some (.int r0)) h0) (q1 : X.1[l0]? = some (.inr 10)) (q2 : r0 = (0 : Int32)) : xm_E X P d co_X11_brief 0 [some (.ref l0), some (.int l1)] [] h (some (.int (-2 : Int32))) h0 := by
  refine xm_E_s r_X11_brief_0 rfl rfl ?_
  refine xm_E_cv [.ref l0] [] r_X11_brief_1 rfl rfl (Nat.le_of_ble_eq_true rfl) (xm_rc q1 (by decide)) rfl q0 ?_
  refine xm_E_s r_X11_brief_2 rfl rfl ?_
  refine xm_E_t q2 ?_
  refine xm_E_s r_X11_brief_16 rfl rfl ?_
  exact xm_E_iret r_X11_brief_17 rfl rfl
theorem p_X11_brief_0_1 {X : xm_X} {P : List xm_M} {d : Nat} {h : xm_H} {l0 : Nat} {l1 : Int32} {h0 : xm_H} {r0 : Int32} {h1 : xm_H} {r1 : Int32} (q0 : xm_V X P d 258 [.ref l0] h (some (.int r0)) h0) (q1 : X.1[l0]? = some (.inr 10)) (q2 : ¬ (r0 = (0 : Int32))) (q3 : xm_V X P d 191 [.long l1.toInt64, .long (1 : Int64), .long (60 : Int64)] h0 (some (.int r1)) h1) (q4 : r1 = (0 : Int32)) : xm_E X P d co_X11_brief 0 [some (.ref l0), some (.int l1)] [] h (some (.int (-2 : Int32))) h1 := by
  refine xm_E_s r_X11_brief_0 rfl rfl ?_
  refine xm_E_cv [.ref l0] [] r_X11_brief_1 rfl rfl (Nat.le_of_ble_eq_true rfl) (xm_rc q1 (by decide)) rfl q0 ?_
  refine xm_E_s r_X11_brief_2 rfl rfl ?_
  refine xm_E_f q2 ?_
  refine xm_E_s r_X11_brief_3 rfl rfl ?_
  refine xm_E_s r_X11_brief_4 rfl rfl ?_
  refine xm_E_s r_X11_brief_5 rfl rfl ?_
  refine xm_E_s r_X11_brief_6 rfl rfl ?_
  refine xm_E_cs [.long l1.toInt64, .long (1 : Int64), .long (60 : Int64)] [] r_X11_brief_7 rfl rfl rfl (Nat.le_of_ble_eq_true rfl) rfl q3 ?_
  refine xm_E_s r_X11_brief_8 rfl rfl ?_
  refine xm_E_t q4 ?_
  refine xm_E_s r_X11_brief_16 rfl rfl ?_
  exact xm_E_iret r_X11_brief_17 rfl rfl
theorem p_X11_brief_0_2 {X : xm_X} {P : List xm_M} {d : Nat} {h : xm_H} {l0 : Nat} {l1 : Int32} {h0 : xm_H} {r0 : Int32} {h1 : xm_H} {r1 : Int32} {h2 : xm_H} {r2 : Int32} (q0 : xm_V X P d 258 [.ref l0] h (some (.int r0)) h0) (q1 : X.1[l0]? = some (.inr 10)) (q2 : ¬ (r0 = (0 : Int32))) (q3 : xm_V X P d 191 [.long l1.toInt64, .long (1 : Int64), .long (60 : Int64)] h0 (some (.int r1)) h1) (q4 : ¬ (r1 = (0 : Int32))) (q5 : xm_V X P d 260 [.ref l0, .int l1, .int (0 : Int32), .int (-1 : Int32), .int (0 : Int32)] h1 (some (.int r2)) h2) : xm_E X P d co_X11_brief 0 [some (.ref l0), some (.int l1)] [] h (some (.int r2)) h2 := by
  refine xm_E_s r_X11_brief_0 rfl rfl ?_
  refine xm_E_cv [.ref l0] [] r_X11_brief_1 rfl rfl (Nat.le_of_ble_eq_true rfl) (xm_rc q1 (by decide)) rfl q0 ?_
  refine xm_E_s r_X11_brief_2 rfl rfl ?_
  refine xm_E_f q2 ?_
  refine xm_E_s r_X11_brief_3 rfl rfl ?_
  refine xm_E_s r_X11_brief_4 rfl rfl ?_
  refine xm_E_s r_X11_brief_5 rfl rfl ?_
  refine xm_E_s r_X11_brief_6 rfl rfl ?_
  refine xm_E_cs [.long l1.toInt64, .long (1 : Int64), .long (60 : Int64)] [] r_X11_brief_7 rfl rfl rfl (Nat.le_of_ble_eq_true rfl) rfl q3 ?_
  refine xm_E_s r_X11_brief_8 rfl rfl ?_
  refine xm_E_f q4 ?_
  refine xm_E_s r_X11_brief_9 rfl rfl ?_
  refine xm_E_s r_X11_brief_10 rfl rfl ?_
  refine xm_E_s r_X11_brief_11 rfl rfl ?_
  refine xm_E_s r_X11_brief_12 rfl rfl ?_
  refine xm_E_s r_X11_brief_13 rfl rfl ?_
  refine xm_E_cv [.ref l0, .int l1, .int (0 : Int32), .int (-1 : Int32), .int (0 : Int32)] [] r_X11_brief_14 rfl rfl (Nat.le_of_ble_eq_true rfl) (xm_rc q1 (by decide)) rfl q5 ?_
  refine xm_E_s r_X11_brief_15 rfl rfl ?_
  exact xm_E_iret r_X11_brief_17 rfl rfl
theorem r_X11_room_0 : co_X11_room[0]? = some ((0, .aload_n 0, 0, 0, 0, 0, 0, 0, []) : xm_I) := rfl
theorem r_X11_room_1 : co_X11_room[1]? = some ((1, .invokevirtual 420, 1802, 258, 1, 10, 0, 0, []) : xm_I) := rfl
theorem r_X11_room_2 : co_X11_room[2]? = some ((4, .ifCond .ne 6, 0, 0, 5, 0, 0, 0, []) : xm_I) := rfl
theorem r_X11_room_3 : co_X11_room[3]? = some ((7, .bipush (-2), 0, 0, 0, 0, (-2), 0, []) : xm_I) := rfl
theorem r_X11_room_4 : co_X11_room[4]? = some ((9, .ireturn, 0, 0, 0, 0, 0, 0, []) : xm_I) := rfl
theorem r_X11_room_5 : co_X11_room[5]? = some ((10, .iconst 1, 0, 0, 0, 0, 1, 0, []) : xm_I) := rfl
theorem r_X11_room_6 : co_X11_room[6]? = some ((11, .istore_n 1, 0, 0, 0, 0, 0, 0, []) : xm_I) := rfl
theorem r_X11_room_7 : co_X11_room[7]? = some ((12, .iload_n 1, 0, 0, 0, 0, 0, 0, []) : xm_I) := rfl
theorem r_X11_room_8 : co_X11_room[8]? = some ((13, .bipush 60, 0, 0, 0, 0, 60, 0, []) : xm_I) := rfl
theorem r_X11_room_9 : co_X11_room[9]? = some ((15, .if_icmp .gt 23, 0, 0, 22, 0, 0, 0, []) : xm_I) := rfl
theorem r_X11_room_10 : co_X11_room[10]? = some ((18, .aload_n 0, 0, 0, 0, 0, 0, 0, []) : xm_I) := rfl
theorem r_X11_room_11 : co_X11_room[11]? = some ((19, .iload_n 1, 0, 0, 0, 0, 0, 0, []) : xm_I) := rfl
theorem r_X11_room_12 : co_X11_room[12]? = some ((20, .iconst 0, 0, 0, 0, 0, 0, 0, []) : xm_I) := rfl
theorem r_X11_room_13 : co_X11_room[13]? = some ((21, .iconst (-1), 0, 0, 0, 0, (-1), 0, []) : xm_I) := rfl
theorem r_X11_room_14 : co_X11_room[14]? = some ((22, .iconst 0, 0, 0, 0, 0, 0, 0, []) : xm_I) := rfl
theorem r_X11_room_15 : co_X11_room[15]? = some ((23, .invokevirtual 423, 1810, 260, 5, 10, 0, 0, []) : xm_I) := rfl
theorem r_X11_room_16 : co_X11_room[16]? = some ((26, .iconst (-1), 0, 0, 0, 0, (-1), 0, []) : xm_I) := rfl
theorem r_X11_room_17 : co_X11_room[17]? = some ((27, .if_icmp .eq 5, 0, 0, 20, 0, 0, 0, []) : xm_I) := rfl
theorem r_X11_room_18 : co_X11_room[18]? = some ((30, .iload_n 1, 0, 0, 0, 0, 0, 0, []) : xm_I) := rfl
theorem r_X11_room_19 : co_X11_room[19]? = some ((31, .ireturn, 0, 0, 0, 0, 0, 0, []) : xm_I) := rfl
theorem r_X11_room_20 : co_X11_room[20]? = some ((32, .iinc 1 1, 0, 0, 0, 0, 1, 0, []) : xm_I) := rfl
theorem r_X11_room_21 : co_X11_room[21]? = some ((35, .goto (-23), 0, 0, 7, 0, 0, 0, []) : xm_I) := rfl
theorem r_X11_room_22 : co_X11_room[22]? = some ((38, .iconst (-1), 0, 0, 0, 0, (-1), 0, []) : xm_I) := rfl
theorem r_X11_room_23 : co_X11_room[23]? = some ((39, .ireturn, 0, 0, 0, 0, 0, 0, []) : xm_I) := rfl
theorem p_X11_room_0_0 {X : xm_X} {P : List xm_M} {d : Nat} {h : xm_H} {l0 : Nat} {h0 : xm_H} {r0 : Int32} (q0 : xm_V X P d 258 [.ref l0] h (some (.int r0)) h0) (q1 : X.1[l0]? = some (.inr 10)) (q2 : r0 = (0 : Int32)) : xm_E X P d co_X11_room 0 [some (.ref l0), none] [] h (some (.int (-2 : Int32))) h0 := by
  refine xm_E_s r_X11_room_0 rfl rfl ?_
  refine xm_E_cv [.ref l0] [] r_X11_room_1 rfl rfl (Nat.le_of_ble_eq_true rfl) (xm_rc q1 (by decide)) rfl q0 ?_
  refine xm_E_s r_X11_room_2 rfl rfl ?_
  refine xm_E_t q2 ?_
  refine xm_E_s r_X11_room_3 rfl rfl ?_
  exact xm_E_iret r_X11_room_4 rfl rfl
theorem p_X11_room_0_1 {X : xm_X} {P : List xm_M} {d : Nat} {h : xm_H} {l0 : Nat} {h0 : xm_H} {r0 : Int32} {ro : Option Value} {ho : xm_H} (q0 : xm_V X P d 258 [.ref l0] h (some (.int r0)) h0) (q1 : X.1[l0]? = some (.inr 10)) (q2 : ¬ (r0 = (0 : Int32))) (K : xm_E X P d co_X11_room 7 [some (.ref l0), some (.int (1 : Int32))] [] h0 ro ho) : xm_E X P d co_X11_room 0 [some (.ref l0), none] [] h ro ho := by
  refine xm_E_s r_X11_room_0 rfl rfl ?_
  refine xm_E_cv [.ref l0] [] r_X11_room_1 rfl rfl (Nat.le_of_ble_eq_true rfl) (xm_rc q1 (by decide)) rfl q0 ?_
  refine xm_E_s r_X11_room_2 rfl rfl ?_
  refine xm_E_f q2 ?_
  refine xm_E_s r_X11_room_5 rfl rfl ?_
  refine xm_E_s (ls1 := [some (.ref l0), some (.int (1 : Int32))]) r_X11_room_6 rfl rfl ?_
  exact K
theorem p_X11_room_7_0 {X : xm_X} {P : List xm_M} {d : Nat} {h : xm_H} {l0 : Nat} {l1 : Int32} (q0 : (60 : Int32) < l1) : xm_E X P d co_X11_room 7 [some (.ref l0), some (.int l1)] [] h (some (.int (-1 : Int32))) h := by
  refine xm_E_s r_X11_room_7 rfl rfl ?_
  refine xm_E_s r_X11_room_8 rfl rfl ?_
  refine xm_E_s r_X11_room_9 rfl rfl ?_
  refine xm_E_t q0 ?_
  refine xm_E_s r_X11_room_22 rfl rfl ?_
  exact xm_E_iret r_X11_room_23 rfl rfl
theorem p_X11_room_7_1 {X : xm_X} {P : List xm_M} {d : Nat} {h : xm_H} {l0 : Nat} {l1 : Int32} {h0 : xm_H} {r0 : Int32} {ro : Option Value} {ho : xm_H} (q0 : ¬ ((60 : Int32) < l1)) (q1 : xm_V X P d 260 [.ref l0, .int l1, .int (0 : Int32), .int (-1 : Int32), .int (0 : Int32)] h (some (.int r0)) h0) (q2 : X.1[l0]? = some (.inr 10)) (q3 : r0 = (-1 : Int32)) (K : xm_E X P d co_X11_room 7 [some (.ref l0), some (.int (l1 + (1 : Int32)))] [] h0 ro ho) : xm_E X P d co_X11_room 7 [some (.ref l0), some (.int l1)] [] h ro ho := by
  refine xm_E_s r_X11_room_7 rfl rfl ?_
  refine xm_E_s r_X11_room_8 rfl rfl ?_
  refine xm_E_s r_X11_room_9 rfl rfl ?_
  refine xm_E_f q0 ?_
  refine xm_E_s r_X11_room_10 rfl rfl ?_
  refine xm_E_s r_X11_room_11 rfl rfl ?_
  refine xm_E_s r_X11_room_12 rfl rfl ?_
  refine xm_E_s r_X11_room_13 rfl rfl ?_
  refine xm_E_s r_X11_room_14 rfl rfl ?_
  refine xm_E_cv [.ref l0, .int l1, .int (0 : Int32), .int (-1 : Int32), .int (0 : Int32)] [] r_X11_room_15 rfl rfl (Nat.le_of_ble_eq_true rfl) (xm_rc q2 (by decide)) rfl q1 ?_
  refine xm_E_s r_X11_room_16 rfl rfl ?_
  refine xm_E_s r_X11_room_17 rfl rfl ?_
  refine xm_E_t q3 ?_
  refine xm_E_s (ls1 := [some (.ref l0), some (.int (l1 + (1 : Int32)))]) r_X11_room_20 rfl rfl ?_
  refine xm_E_s r_X11_room_21 rfl rfl ?_
  exact K
theorem p_X11_room_7_2 {X : xm_X} {P : List xm_M} {d : Nat} {h : xm_H} {l0 : Nat} {l1 : Int32} {h0 : xm_H} {r0 : Int32} (q0 : ¬ ((60 : Int32) < l1)) (q1 : xm_V X P d 260 [.ref l0, .int l1, .int (0 : Int32), .int (-1 : Int32), .int (0 : Int32)] h (some (.int r0)) h0) (q2 : X.1[l0]? = some (.inr 10)) (q3 : ¬ (r0 = (-1 : Int32))) : xm_E X P d co_X11_room 7 [some (.ref l0), some (.int l1)] [] h (some (.int l1)) h0 := by
  refine xm_E_s r_X11_room_7 rfl rfl ?_
  refine xm_E_s r_X11_room_8 rfl rfl ?_
  refine xm_E_s r_X11_room_9 rfl rfl ?_
  refine xm_E_f q0 ?_
  refine xm_E_s r_X11_room_10 rfl rfl ?_
  refine xm_E_s r_X11_room_11 rfl rfl ?_
  refine xm_E_s r_X11_room_12 rfl rfl ?_
  refine xm_E_s r_X11_room_13 rfl rfl ?_
  refine xm_E_s r_X11_room_14 rfl rfl ?_
  refine xm_E_cv [.ref l0, .int l1, .int (0 : Int32), .int (-1 : Int32), .int (0 : Int32)] [] r_X11_room_15 rfl rfl (Nat.le_of_ble_eq_true rfl) (xm_rc q2 (by decide)) rfl q1 ?_
  refine xm_E_s r_X11_room_16 rfl rfl ?_
  refine xm_E_s r_X11_room_17 rfl rfl ?_
  refine xm_E_f q3 ?_
  refine xm_E_s r_X11_room_18 rfl rfl ?_
  exact xm_E_iret r_X11_room_19 rfl rfl
theorem r_X11_best_0 : co_X11_best[0]? = some ((0, .aload_n 0, 0, 0, 0, 0, 0, 0, []) : xm_I) := rfl
theorem r_X11_best_1 : co_X11_best[1]? = some ((1, .invokevirtual 420, 1802, 258, 1, 10, 0, 0, []) : xm_I) := rfl
theorem r_X11_best_2 : co_X11_best[2]? = some ((4, .ifCond .ne 6, 0, 0, 5, 0, 0, 0, []) : xm_I) := rfl
theorem r_X11_best_3 : co_X11_best[3]? = some ((7, .bipush (-2), 0, 0, 0, 0, (-2), 0, []) : xm_I) := rfl
theorem r_X11_best_4 : co_X11_best[4]? = some ((9, .ireturn, 0, 0, 0, 0, 0, 0, []) : xm_I) := rfl
theorem r_X11_best_5 : co_X11_best[5]? = some ((10, .iconst (-1), 0, 0, 0, 0, (-1), 0, []) : xm_I) := rfl
theorem r_X11_best_6 : co_X11_best[6]? = some ((11, .istore_n 1, 0, 0, 0, 0, 0, 0, []) : xm_I) := rfl
theorem r_X11_best_7 : co_X11_best[7]? = some ((12, .ldc_w 386, 1818, 0, 0, 0, 1000000000, 0, []) : xm_I) := rfl
theorem r_X11_best_8 : co_X11_best[8]? = some ((15, .istore_n 2, 0, 0, 0, 0, 0, 0, []) : xm_I) := rfl
theorem r_X11_best_9 : co_X11_best[9]? = some ((16, .iconst 1, 0, 0, 0, 0, 1, 0, []) : xm_I) := rfl
theorem r_X11_best_10 : co_X11_best[10]? = some ((17, .istore_n 3, 0, 0, 0, 0, 0, 0, []) : xm_I) := rfl
theorem r_X11_best_11 : co_X11_best[11]? = some ((18, .iload_n 3, 0, 0, 0, 0, 0, 0, []) : xm_I) := rfl
theorem r_X11_best_12 : co_X11_best[12]? = some ((19, .bipush 60, 0, 0, 0, 0, 60, 0, []) : xm_I) := rfl
theorem r_X11_best_13 : co_X11_best[13]? = some ((21, .if_icmp .gt 39, 0, 0, 34, 0, 0, 0, []) : xm_I) := rfl
theorem r_X11_best_14 : co_X11_best[14]? = some ((24, .aload_n 0, 0, 0, 0, 0, 0, 0, []) : xm_I) := rfl
theorem r_X11_best_15 : co_X11_best[15]? = some ((25, .iload_n 3, 0, 0, 0, 0, 0, 0, []) : xm_I) := rfl
theorem r_X11_best_16 : co_X11_best[16]? = some ((26, .iconst 0, 0, 0, 0, 0, 0, 0, []) : xm_I) := rfl
theorem r_X11_best_17 : co_X11_best[17]? = some ((27, .iconst (-1), 0, 0, 0, 0, (-1), 0, []) : xm_I) := rfl
theorem r_X11_best_18 : co_X11_best[18]? = some ((28, .iconst 0, 0, 0, 0, 0, 0, 0, []) : xm_I) := rfl
theorem r_X11_best_19 : co_X11_best[19]? = some ((29, .invokevirtual 423, 1810, 260, 5, 10, 0, 0, []) : xm_I) := rfl
theorem r_X11_best_20 : co_X11_best[20]? = some ((32, .istore 4, 0, 0, 0, 0, 0, 0, []) : xm_I) := rfl
theorem r_X11_best_21 : co_X11_best[21]? = some ((34, .iload 4, 0, 0, 0, 0, 0, 0, []) : xm_I) := rfl
theorem r_X11_best_22 : co_X11_best[22]? = some ((36, .iconst (-1), 0, 0, 0, 0, (-1), 0, []) : xm_I) := rfl
theorem r_X11_best_23 : co_X11_best[23]? = some ((37, .if_icmp .eq 17, 0, 0, 32, 0, 0, 0, []) : xm_I) := rfl
theorem r_X11_best_24 : co_X11_best[24]? = some ((40, .iload 4, 0, 0, 0, 0, 0, 0, []) : xm_I) := rfl
theorem r_X11_best_25 : co_X11_best[25]? = some ((42, .iload_n 2, 0, 0, 0, 0, 0, 0, []) : xm_I) := rfl
theorem r_X11_best_26 : co_X11_best[26]? = some ((43, .if_icmp .lt 6, 0, 0, 28, 0, 0, 0, []) : xm_I) := rfl
theorem r_X11_best_27 : co_X11_best[27]? = some ((46, .goto 8, 0, 0, 32, 0, 0, 0, []) : xm_I) := rfl
theorem r_X11_best_28 : co_X11_best[28]? = some ((49, .iload_n 3, 0, 0, 0, 0, 0, 0, []) : xm_I) := rfl
theorem r_X11_best_29 : co_X11_best[29]? = some ((50, .istore_n 1, 0, 0, 0, 0, 0, 0, []) : xm_I) := rfl
theorem r_X11_best_30 : co_X11_best[30]? = some ((51, .iload 4, 0, 0, 0, 0, 0, 0, []) : xm_I) := rfl
theorem r_X11_best_31 : co_X11_best[31]? = some ((53, .istore_n 2, 0, 0, 0, 0, 0, 0, []) : xm_I) := rfl
theorem r_X11_best_32 : co_X11_best[32]? = some ((54, .iinc 3 1, 0, 0, 0, 0, 1, 0, []) : xm_I) := rfl
theorem r_X11_best_33 : co_X11_best[33]? = some ((57, .goto (-39), 0, 0, 11, 0, 0, 0, []) : xm_I) := rfl
theorem r_X11_best_34 : co_X11_best[34]? = some ((60, .iload_n 1, 0, 0, 0, 0, 0, 0, []) : xm_I) := rfl
theorem r_X11_best_35 : co_X11_best[35]? = some ((61, .ireturn, 0, 0, 0, 0, 0, 0, []) : xm_I) := rfl
theorem p_X11_best_0_0 {X : xm_X} {P : List xm_M} {d : Nat} {h : xm_H} {l0 : Nat} {h0 : xm_H} {r0 : Int32} (q0 : xm_V X P d 258 [.ref l0] h (some (.int r0)) h0) (q1 : X.1[l0]? = some (.inr 10)) (q2 : r0 = (0 : Int32)) : xm_E X P d co_X11_best 0 [some (.ref l0), none, none, none, none] [] h (some (.int (-2 : Int32))) h0 := by
  refine xm_E_s r_X11_best_0 rfl rfl ?_
  refine xm_E_cv [.ref l0] [] r_X11_best_1 rfl rfl (Nat.le_of_ble_eq_true rfl) (xm_rc q1 (by decide)) rfl q0 ?_
  refine xm_E_s r_X11_best_2 rfl rfl ?_
  refine xm_E_t q2 ?_
  refine xm_E_s r_X11_best_3 rfl rfl ?_
  exact xm_E_iret r_X11_best_4 rfl rfl
theorem p_X11_best_0_1 {X : xm_X} {P : List xm_M} {d : Nat} {h : xm_H} {l0 : Nat} {h0 : xm_H} {r0 : Int32} {ro : Option Value} {ho : xm_H} (q0 : xm_V X P d 258 [.ref l0] h (some (.int r0)) h0) (q1 : X.1[l0]? = some (.inr 10)) (q2 : ¬ (r0 = (0 : Int32))) (K : xm_E X P d co_X11_best 11 [some (.ref l0), some (.int (-1 : Int32)), some (.int (1000000000 : Int32)), some (.int (1 : Int32)), none] [] h0 ro ho) : xm_E X P d co_X11_best 0 [some (.ref l0), none, none, none, none] [] h ro ho := by
  refine xm_E_s r_X11_best_0 rfl rfl ?_
  refine xm_E_cv [.ref l0] [] r_X11_best_1 rfl rfl (Nat.le_of_ble_eq_true rfl) (xm_rc q1 (by decide)) rfl q0 ?_
  refine xm_E_s r_X11_best_2 rfl rfl ?_
  refine xm_E_f q2 ?_
  refine xm_E_s r_X11_best_5 rfl rfl ?_
  refine xm_E_s (ls1 := [some (.ref l0), some (.int (-1 : Int32)), none, none, none]) r_X11_best_6 rfl rfl ?_
  refine xm_E_s r_X11_best_7 rfl rfl ?_
  refine xm_E_s (ls1 := [some (.ref l0), some (.int (-1 : Int32)), some (.int (1000000000 : Int32)), none, none]) r_X11_best_8 rfl rfl ?_
  refine xm_E_s r_X11_best_9 rfl rfl ?_
  refine xm_E_s (ls1 := [some (.ref l0), some (.int (-1 : Int32)), some (.int (1000000000 : Int32)), some (.int (1 : Int32)), none]) r_X11_best_10 rfl rfl ?_
  exact K
theorem p_X11_best_11_0 {X : xm_X} {P : List xm_M} {d : Nat} {h : xm_H} {l0 : Nat} {l1 : Int32} {l2 : Int32} {l3 : Int32} {l4 : Option Value} (q0 : (60 : Int32) < l3) : xm_E X P d co_X11_best 11 [some (.ref l0), some (.int l1), some (.int l2), some (.int l3), l4] [] h (some (.int l1)) h := by
  refine xm_E_s r_X11_best_11 rfl rfl ?_
  refine xm_E_s r_X11_best_12 rfl rfl ?_
  refine xm_E_s r_X11_best_13 rfl rfl ?_
  refine xm_E_t q0 ?_
  refine xm_E_s r_X11_best_34 rfl rfl ?_
  exact xm_E_iret r_X11_best_35 rfl rfl
theorem p_X11_best_11_1 {X : xm_X} {P : List xm_M} {d : Nat} {h : xm_H} {l0 : Nat} {l1 : Int32} {l2 : Int32} {l3 : Int32} {l4 : Option Value} {h0 : xm_H} {r0 : Int32} {ro : Option Value} {ho : xm_H} (q0 : ¬ ((60 : Int32) < l3)) (q1 : xm_V X P d 260 [.ref l0, .int l3, .int (0 : Int32), .int (-1 : Int32), .int (0 : Int32)] h (some (.int r0)) h0) (q2 : X.1[l0]? = some (.inr 10)) (q3 : r0 = (-1 : Int32)) (K : xm_E X P d co_X11_best 11 [some (.ref l0), some (.int l1), some (.int l2), some (.int (l3 + (1 : Int32))), some (.int r0)] [] h0 ro ho) : xm_E X P d co_X11_best 11 [some (.ref l0), some (.int l1), some (.int l2), some (.int l3), l4] [] h ro ho := by
  refine xm_E_s r_X11_best_11 rfl rfl ?_
  refine xm_E_s r_X11_best_12 rfl rfl ?_
  refine xm_E_s r_X11_best_13 rfl rfl ?_
  refine xm_E_f q0 ?_
  refine xm_E_s r_X11_best_14 rfl rfl ?_
  refine xm_E_s r_X11_best_15 rfl rfl ?_
  refine xm_E_s r_X11_best_16 rfl rfl ?_
  refine xm_E_s r_X11_best_17 rfl rfl ?_
  refine xm_E_s r_X11_best_18 rfl rfl ?_
  refine xm_E_cv [.ref l0, .int l3, .int (0 : Int32), .int (-1 : Int32), .int (0 : Int32)] [] r_X11_best_19 rfl rfl (Nat.le_of_ble_eq_true rfl) (xm_rc q2 (by decide)) rfl q1 ?_
  refine xm_E_s (ls1 := [some (.ref l0), some (.int l1), some (.int l2), some (.int l3), some (.int r0)]) r_X11_best_20 rfl rfl ?_
  refine xm_E_s r_X11_best_21 rfl rfl ?_
  refine xm_E_s r_X11_best_22 rfl rfl ?_
  refine xm_E_s r_X11_best_23 rfl rfl ?_
  refine xm_E_t q3 ?_
  refine xm_E_s (ls1 := [some (.ref l0), some (.int l1), some (.int l2), some (.int (l3 + (1 : Int32))), some (.int r0)]) r_X11_best_32 rfl rfl ?_
  refine xm_E_s r_X11_best_33 rfl rfl ?_
  exact K
theorem p_X11_best_11_2 {X : xm_X} {P : List xm_M} {d : Nat} {h : xm_H} {l0 : Nat} {l1 : Int32} {l2 : Int32} {l3 : Int32} {l4 : Option Value} {h0 : xm_H} {r0 : Int32} {ro : Option Value} {ho : xm_H} (q0 : ¬ ((60 : Int32) < l3)) (q1 : xm_V X P d 260 [.ref l0, .int l3, .int (0 : Int32), .int (-1 : Int32), .int (0 : Int32)] h (some (.int r0)) h0) (q2 : X.1[l0]? = some (.inr 10)) (q3 : ¬ (r0 = (-1 : Int32))) (q4 : r0 < l2) (K : xm_E X P d co_X11_best 11 [some (.ref l0), some (.int l3), some (.int r0), some (.int (l3 + (1 : Int32))), some (.int r0)] [] h0 ro ho) : xm_E X P d co_X11_best 11 [some (.ref l0), some (.int l1), some (.int l2), some (.int l3), l4] [] h ro ho := by
  refine xm_E_s r_X11_best_11 rfl rfl ?_
  refine xm_E_s r_X11_best_12 rfl rfl ?_
  refine xm_E_s r_X11_best_13 rfl rfl ?_
  refine xm_E_f q0 ?_
  refine xm_E_s r_X11_best_14 rfl rfl ?_
  refine xm_E_s r_X11_best_15 rfl rfl ?_
  refine xm_E_s r_X11_best_16 rfl rfl ?_
  refine xm_E_s r_X11_best_17 rfl rfl ?_
  refine xm_E_s r_X11_best_18 rfl rfl ?_
  refine xm_E_cv [.ref l0, .int l3, .int (0 : Int32), .int (-1 : Int32), .int (0 : Int32)] [] r_X11_best_19 rfl rfl (Nat.le_of_ble_eq_true rfl) (xm_rc q2 (by decide)) rfl q1 ?_
  refine xm_E_s (ls1 := [some (.ref l0), some (.int l1), some (.int l2), some (.int l3), some (.int r0)]) r_X11_best_20 rfl rfl ?_
  refine xm_E_s r_X11_best_21 rfl rfl ?_
  refine xm_E_s r_X11_best_22 rfl rfl ?_
  refine xm_E_s r_X11_best_23 rfl rfl ?_
  refine xm_E_f q3 ?_
  refine xm_E_s r_X11_best_24 rfl rfl ?_
  refine xm_E_s r_X11_best_25 rfl rfl ?_
  refine xm_E_s r_X11_best_26 rfl rfl ?_
  refine xm_E_t q4 ?_
  refine xm_E_s r_X11_best_28 rfl rfl ?_
  refine xm_E_s (ls1 := [some (.ref l0), some (.int l3), some (.int l2), some (.int l3), some (.int r0)]) r_X11_best_29 rfl rfl ?_
  refine xm_E_s r_X11_best_30 rfl rfl ?_
  refine xm_E_s (ls1 := [some (.ref l0), some (.int l3), some (.int r0), some (.int l3), some (.int r0)]) r_X11_best_31 rfl rfl ?_
  refine xm_E_s (ls1 := [some (.ref l0), some (.int l3), some (.int r0), some (.int (l3 + (1 : Int32))), some (.int r0)]) r_X11_best_32 rfl rfl ?_
  refine xm_E_s r_X11_best_33 rfl rfl ?_
  exact K
theorem p_X11_best_11_3 {X : xm_X} {P : List xm_M} {d : Nat} {h : xm_H} {l0 : Nat} {l1 : Int32} {l2 : Int32} {l3 : Int32} {l4 : Option Value} {h0 : xm_H} {r0 : Int32} {ro : Option Value} {ho : xm_H} (q0 : ¬ ((60 : Int32) < l3)) (q1 : xm_V X P d 260 [.ref l0, .int l3, .int (0 : Int32), .int (-1 : Int32), .int (0 : Int32)] h (some (.int r0)) h0) (q2 : X.1[l0]? = some (.inr 10)) (q3 : ¬ (r0 = (-1 : Int32))) (q4 : ¬ (r0 < l2)) (K : xm_E X P d co_X11_best 11 [some (.ref l0), some (.int l1), some (.int l2), some (.int (l3 + (1 : Int32))), some (.int r0)] [] h0 ro ho) : xm_E X P d co_X11_best 11 [some (.ref l0), some (.int l1), some (.int l2), some (.int l3), l4] [] h ro ho := by
  refine xm_E_s r_X11_best_11 rfl rfl ?_
  refine xm_E_s r_X11_best_12 rfl rfl ?_
  refine xm_E_s r_X11_best_13 rfl rfl ?_
  refine xm_E_f q0 ?_
  refine xm_E_s r_X11_best_14 rfl rfl ?_
  refine xm_E_s r_X11_best_15 rfl rfl ?_
  refine xm_E_s r_X11_best_16 rfl rfl ?_
  refine xm_E_s r_X11_best_17 rfl rfl ?_
  refine xm_E_s r_X11_best_18 rfl rfl ?_
  refine xm_E_cv [.ref l0, .int l3, .int (0 : Int32), .int (-1 : Int32), .int (0 : Int32)] [] r_X11_best_19 rfl rfl (Nat.le_of_ble_eq_true rfl) (xm_rc q2 (by decide)) rfl q1 ?_
  refine xm_E_s (ls1 := [some (.ref l0), some (.int l1), some (.int l2), some (.int l3), some (.int r0)]) r_X11_best_20 rfl rfl ?_
  refine xm_E_s r_X11_best_21 rfl rfl ?_
  refine xm_E_s r_X11_best_22 rfl rfl ?_
  refine xm_E_s r_X11_best_23 rfl rfl ?_
  refine xm_E_f q3 ?_
  refine xm_E_s r_X11_best_24 rfl rfl ?_
  refine xm_E_s r_X11_best_25 rfl rfl ?_
  refine xm_E_s r_X11_best_26 rfl rfl ?_
  refine xm_E_f q4 ?_
  refine xm_E_s r_X11_best_27 rfl rfl ?_
  refine xm_E_s (ls1 := [some (.ref l0), some (.int l1), some (.int l2), some (.int (l3 + (1 : Int32))), some (.int r0)]) r_X11_best_32 rfl rfl ?_
  refine xm_E_s r_X11_best_33 rfl rfl ?_
  exact K
theorem r_X11_parcel_0 : co_X11_parcel[0]? = some ((0, .aload_n 0, 0, 0, 0, 0, 0, 0, []) : xm_I) := rfl
theorem r_X11_parcel_1 : co_X11_parcel[1]? = some ((1, .invokevirtual 324, 1643, 216, 1, 10, 0, 0, []) : xm_I) := rfl
theorem r_X11_parcel_2 : co_X11_parcel[2]? = some ((4, .ifCond .eq 27, 0, 0, 15, 0, 0, 0, []) : xm_I) := rfl
theorem r_X11_parcel_3 : co_X11_parcel[3]? = some ((7, .iload_n 1, 0, 0, 0, 0, 0, 0, []) : xm_I) := rfl
theorem r_X11_parcel_4 : co_X11_parcel[4]? = some ((8, .i2l, 0, 0, 0, 0, 0, 0, []) : xm_I) := rfl
theorem r_X11_parcel_5 : co_X11_parcel[5]? = some ((9, .lconst 1, 0, 0, 0, 0, 0, 1, []) : xm_I) := rfl
theorem r_X11_parcel_6 : co_X11_parcel[6]? = some ((10, .ldc2_w 111, 1536, 0, 0, 0, 0, 48, []) : xm_I) := rfl
theorem r_X11_parcel_7 : co_X11_parcel[7]? = some ((13, .invokestatic 84, 1503, 191, 3, 0, 0, 0, []) : xm_I) := rfl
theorem r_X11_parcel_8 : co_X11_parcel[8]? = some ((16, .ifCond .eq 15, 0, 0, 15, 0, 0, 0, []) : xm_I) := rfl
theorem r_X11_parcel_9 : co_X11_parcel[9]? = some ((19, .iload_n 2, 0, 0, 0, 0, 0, 0, []) : xm_I) := rfl
theorem r_X11_parcel_10 : co_X11_parcel[10]? = some ((20, .i2l, 0, 0, 0, 0, 0, 0, []) : xm_I) := rfl
theorem r_X11_parcel_11 : co_X11_parcel[11]? = some ((21, .lconst 1, 0, 0, 0, 0, 0, 1, []) : xm_I) := rfl
theorem r_X11_parcel_12 : co_X11_parcel[12]? = some ((22, .ldc2_w 111, 1536, 0, 0, 0, 0, 48, []) : xm_I) := rfl
theorem r_X11_parcel_13 : co_X11_parcel[13]? = some ((25, .invokestatic 84, 1503, 191, 3, 0, 0, 0, []) : xm_I) := rfl
theorem r_X11_parcel_14 : co_X11_parcel[14]? = some ((28, .ifCond .ne 6, 0, 0, 17, 0, 0, 0, []) : xm_I) := rfl
theorem r_X11_parcel_15 : co_X11_parcel[15]? = some ((31, .bipush (-2), 0, 0, 0, 0, (-2), 0, []) : xm_I) := rfl
theorem r_X11_parcel_16 : co_X11_parcel[16]? = some ((33, .ireturn, 0, 0, 0, 0, 0, 0, []) : xm_I) := rfl
theorem r_X11_parcel_17 : co_X11_parcel[17]? = some ((34, .aload_n 0, 0, 0, 0, 0, 0, 0, []) : xm_I) := rfl
theorem r_X11_parcel_18 : co_X11_parcel[18]? = some ((35, .invokevirtual 432, 1892, 280, 1, 10, 0, 0, []) : xm_I) := rfl
theorem r_X11_parcel_19 : co_X11_parcel[19]? = some ((38, .ldc_w 386, 1818, 0, 0, 0, 1000000000, 0, []) : xm_I) := rfl
theorem r_X11_parcel_20 : co_X11_parcel[20]? = some ((41, .istore_n 3, 0, 0, 0, 0, 0, 0, []) : xm_I) := rfl
theorem r_X11_parcel_21 : co_X11_parcel[21]? = some ((42, .iconst 0, 0, 0, 0, 0, 0, 0, []) : xm_I) := rfl
theorem r_X11_parcel_22 : co_X11_parcel[22]? = some ((43, .istore 4, 0, 0, 0, 0, 0, 0, []) : xm_I) := rfl
theorem r_X11_parcel_23 : co_X11_parcel[23]? = some ((45, .iload 4, 0, 0, 0, 0, 0, 0, []) : xm_I) := rfl
theorem r_X11_parcel_24 : co_X11_parcel[24]? = some ((47, .aload_n 0, 0, 0, 0, 0, 0, 0, []) : xm_I) := rfl
theorem r_X11_parcel_25 : co_X11_parcel[25]? = some ((48, .getfield 387, 1403, 10, 23, 0, 0, 0, []) : xm_I) := rfl
theorem r_X11_parcel_26 : co_X11_parcel[26]? = some ((51, .if_icmp .ge 56, 0, 0, 52, 0, 0, 0, []) : xm_I) := rfl
theorem r_X11_parcel_27 : co_X11_parcel[27]? = some ((54, .aload_n 0, 0, 0, 0, 0, 0, 0, []) : xm_I) := rfl
theorem r_X11_parcel_28 : co_X11_parcel[28]? = some ((55, .getfield 41, 1402, 10, 22, 2, 0, 0, []) : xm_I) := rfl
theorem r_X11_parcel_29 : co_X11_parcel[29]? = some ((58, .iload 4, 0, 0, 0, 0, 0, 0, []) : xm_I) := rfl
theorem r_X11_parcel_30 : co_X11_parcel[30]? = some ((60, .iaload, 0, 0, 0, 0, 0, 0, []) : xm_I) := rfl
theorem r_X11_parcel_31 : co_X11_parcel[31]? = some ((61, .istore 5, 0, 0, 0, 0, 0, 0, []) : xm_I) := rfl
theorem r_X11_parcel_32 : co_X11_parcel[32]? = some ((63, .iload 5, 0, 0, 0, 0, 0, 0, []) : xm_I) := rfl
theorem r_X11_parcel_33 : co_X11_parcel[33]? = some ((65, .invokestatic 265, 1674, 224, 1, 0, 0, 0, []) : xm_I) := rfl
theorem r_X11_parcel_34 : co_X11_parcel[34]? = some ((68, .iload_n 1, 0, 0, 0, 0, 0, 0, []) : xm_I) := rfl
theorem r_X11_parcel_35 : co_X11_parcel[35]? = some ((69, .if_icmp .ne 32, 0, 0, 50, 0, 0, 0, []) : xm_I) := rfl
theorem r_X11_parcel_36 : co_X11_parcel[36]? = some ((72, .iload 5, 0, 0, 0, 0, 0, 0, []) : xm_I) := rfl
theorem r_X11_parcel_37 : co_X11_parcel[37]? = some ((74, .invokestatic 268, 1677, 225, 1, 0, 0, 0, []) : xm_I) := rfl
theorem r_X11_parcel_38 : co_X11_parcel[38]? = some ((77, .iload_n 2, 0, 0, 0, 0, 0, 0, []) : xm_I) := rfl
theorem r_X11_parcel_39 : co_X11_parcel[39]? = some ((78, .if_icmp .ne 23, 0, 0, 50, 0, 0, 0, []) : xm_I) := rfl
theorem r_X11_parcel_40 : co_X11_parcel[40]? = some ((81, .iload 5, 0, 0, 0, 0, 0, 0, []) : xm_I) := rfl
theorem r_X11_parcel_41 : co_X11_parcel[41]? = some ((83, .invokestatic 280, 1686, 228, 1, 0, 0, 0, []) : xm_I) := rfl
theorem r_X11_parcel_42 : co_X11_parcel[42]? = some ((86, .ifCond .ne 15, 0, 0, 50, 0, 0, 0, []) : xm_I) := rfl
theorem r_X11_parcel_43 : co_X11_parcel[43]? = some ((89, .iload_n 3, 0, 0, 0, 0, 0, 0, []) : xm_I) := rfl
theorem r_X11_parcel_44 : co_X11_parcel[44]? = some ((90, .aload_n 0, 0, 0, 0, 0, 0, 0, []) : xm_I) := rfl
theorem r_X11_parcel_45 : co_X11_parcel[45]? = some ((91, .getfield 35, 1400, 10, 20, 2, 0, 0, []) : xm_I) := rfl
theorem r_X11_parcel_46 : co_X11_parcel[46]? = some ((94, .iload 5, 0, 0, 0, 0, 0, 0, []) : xm_I) := rfl
theorem r_X11_parcel_47 : co_X11_parcel[47]? = some ((96, .iaload, 0, 0, 0, 0, 0, 0, []) : xm_I) := rfl
theorem r_X11_parcel_48 : co_X11_parcel[48]? = some ((97, .invokestatic 119, 1539, 0, 0, 3, 0, 0, []) : xm_I) := rfl
theorem r_X11_parcel_49 : co_X11_parcel[49]? = some ((100, .istore_n 3, 0, 0, 0, 0, 0, 0, []) : xm_I) := rfl
theorem r_X11_parcel_50 : co_X11_parcel[50]? = some ((101, .iinc 4 1, 0, 0, 0, 0, 1, 0, []) : xm_I) := rfl
theorem r_X11_parcel_51 : co_X11_parcel[51]? = some ((104, .goto (-59), 0, 0, 23, 0, 0, 0, []) : xm_I) := rfl
theorem r_X11_parcel_52 : co_X11_parcel[52]? = some ((107, .iload_n 3, 0, 0, 0, 0, 0, 0, []) : xm_I) := rfl
theorem r_X11_parcel_53 : co_X11_parcel[53]? = some ((108, .ldc_w 386, 1818, 0, 0, 0, 1000000000, 0, []) : xm_I) := rfl
theorem r_X11_parcel_54 : co_X11_parcel[54]? = some ((111, .if_icmp .ne 7, 0, 0, 57, 0, 0, 0, []) : xm_I) := rfl
theorem r_X11_parcel_55 : co_X11_parcel[55]? = some ((114, .iconst (-1), 0, 0, 0, 0, (-1), 0, []) : xm_I) := rfl
theorem r_X11_parcel_56 : co_X11_parcel[56]? = some ((115, .goto 4, 0, 0, 58, 0, 0, 0, []) : xm_I) := rfl
theorem r_X11_parcel_57 : co_X11_parcel[57]? = some ((118, .iload_n 3, 0, 0, 0, 0, 0, 0, []) : xm_I) := rfl
theorem r_X11_parcel_58 : co_X11_parcel[58]? = some ((119, .ireturn, 0, 0, 0, 0, 0, 0, []) : xm_I) := rfl
theorem p_X11_parcel_0_0 {X : xm_X} {P : List xm_M} {d : Nat} {h : xm_H} {l0 : Nat} {l1 : Int32} {l2 : Int32} {h0 : xm_H} {r0 : Int32} (q0 : xm_V X P d 216 [.ref l0] h (some (.int r0)) h0) (q1 : X.1[l0]? = some (.inr 10)) (q2 : r0 = (0 : Int32)) : xm_E X P d co_X11_parcel 0 [some (.ref l0), some (.int l1), some (.int l2), none, none, none] [] h (some (.int (-2 : Int32))) h0 := by
  refine xm_E_s r_X11_parcel_0 rfl rfl ?_
  refine xm_E_cv [.ref l0] [] r_X11_parcel_1 rfl rfl (Nat.le_of_ble_eq_true rfl) (xm_rc q1 (by decide)) rfl q0 ?_
  refine xm_E_s r_X11_parcel_2 rfl rfl ?_
  refine xm_E_t q2 ?_
  refine xm_E_s r_X11_parcel_15 rfl rfl ?_
  exact xm_E_iret r_X11_parcel_16 rfl rfl
theorem p_X11_parcel_0_1 {X : xm_X} {P : List xm_M} {d : Nat} {h : xm_H} {l0 : Nat} {l1 : Int32} {l2 : Int32} {h0 : xm_H} {r0 : Int32} {h1 : xm_H} {r1 : Int32} (q0 : xm_V X P d 216 [.ref l0] h (some (.int r0)) h0) (q1 : X.1[l0]? = some (.inr 10)) (q2 : ¬ (r0 = (0 : Int32))) (q3 : xm_V X P d 191 [.long l1.toInt64, .long (1 : Int64), .long (48 : Int64)] h0 (some (.int r1)) h1) (q4 : r1 = (0 : Int32)) : xm_E X P d co_X11_parcel 0 [some (.ref l0), some (.int l1), some (.int l2), none, none, none] [] h (some (.int (-2 : Int32))) h1 := by
  refine xm_E_s r_X11_parcel_0 rfl rfl ?_
  refine xm_E_cv [.ref l0] [] r_X11_parcel_1 rfl rfl (Nat.le_of_ble_eq_true rfl) (xm_rc q1 (by decide)) rfl q0 ?_
  refine xm_E_s r_X11_parcel_2 rfl rfl ?_
  refine xm_E_f q2 ?_
  refine xm_E_s r_X11_parcel_3 rfl rfl ?_
  refine xm_E_s r_X11_parcel_4 rfl rfl ?_
  refine xm_E_s r_X11_parcel_5 rfl rfl ?_
  refine xm_E_s r_X11_parcel_6 rfl rfl ?_
  refine xm_E_cs [.long l1.toInt64, .long (1 : Int64), .long (48 : Int64)] [] r_X11_parcel_7 rfl rfl rfl (Nat.le_of_ble_eq_true rfl) rfl q3 ?_
  refine xm_E_s r_X11_parcel_8 rfl rfl ?_
  refine xm_E_t q4 ?_
  refine xm_E_s r_X11_parcel_15 rfl rfl ?_
  exact xm_E_iret r_X11_parcel_16 rfl rfl
theorem p_X11_parcel_0_2 {X : xm_X} {P : List xm_M} {d : Nat} {h : xm_H} {l0 : Nat} {l1 : Int32} {l2 : Int32} {h0 : xm_H} {r0 : Int32} {h1 : xm_H} {r1 : Int32} {h2 : xm_H} {r2 : Int32} (q0 : xm_V X P d 216 [.ref l0] h (some (.int r0)) h0) (q1 : X.1[l0]? = some (.inr 10)) (q2 : ¬ (r0 = (0 : Int32))) (q3 : xm_V X P d 191 [.long l1.toInt64, .long (1 : Int64), .long (48 : Int64)] h0 (some (.int r1)) h1) (q4 : ¬ (r1 = (0 : Int32))) (q5 : xm_V X P d 191 [.long l2.toInt64, .long (1 : Int64), .long (48 : Int64)] h1 (some (.int r2)) h2) (q6 : r2 = (0 : Int32)) : xm_E X P d co_X11_parcel 0 [some (.ref l0), some (.int l1), some (.int l2), none, none, none] [] h (some (.int (-2 : Int32))) h2 := by
  refine xm_E_s r_X11_parcel_0 rfl rfl ?_
  refine xm_E_cv [.ref l0] [] r_X11_parcel_1 rfl rfl (Nat.le_of_ble_eq_true rfl) (xm_rc q1 (by decide)) rfl q0 ?_
  refine xm_E_s r_X11_parcel_2 rfl rfl ?_
  refine xm_E_f q2 ?_
  refine xm_E_s r_X11_parcel_3 rfl rfl ?_
  refine xm_E_s r_X11_parcel_4 rfl rfl ?_
  refine xm_E_s r_X11_parcel_5 rfl rfl ?_
  refine xm_E_s r_X11_parcel_6 rfl rfl ?_
  refine xm_E_cs [.long l1.toInt64, .long (1 : Int64), .long (48 : Int64)] [] r_X11_parcel_7 rfl rfl rfl (Nat.le_of_ble_eq_true rfl) rfl q3 ?_
  refine xm_E_s r_X11_parcel_8 rfl rfl ?_
  refine xm_E_f q4 ?_
  refine xm_E_s r_X11_parcel_9 rfl rfl ?_
  refine xm_E_s r_X11_parcel_10 rfl rfl ?_
  refine xm_E_s r_X11_parcel_11 rfl rfl ?_
  refine xm_E_s r_X11_parcel_12 rfl rfl ?_
  refine xm_E_cs [.long l2.toInt64, .long (1 : Int64), .long (48 : Int64)] [] r_X11_parcel_13 rfl rfl rfl (Nat.le_of_ble_eq_true rfl) rfl q5 ?_
  refine xm_E_s r_X11_parcel_14 rfl rfl ?_
  refine xm_E_t q6 ?_
  refine xm_E_s r_X11_parcel_15 rfl rfl ?_
  exact xm_E_iret r_X11_parcel_16 rfl rfl
theorem p_X11_parcel_0_3 {X : xm_X} {P : List xm_M} {d : Nat} {h : xm_H} {l0 : Nat} {l1 : Int32} {l2 : Int32} {h0 : xm_H} {r0 : Int32} {h1 : xm_H} {r1 : Int32} {h2 : xm_H} {r2 : Int32} {h3 : xm_H} {ro : Option Value} {ho : xm_H} (q0 : xm_V X P d 216 [.ref l0] h (some (.int r0)) h0) (q1 : X.1[l0]? = some (.inr 10)) (q2 : ¬ (r0 = (0 : Int32))) (q3 : xm_V X P d 191 [.long l1.toInt64, .long (1 : Int64), .long (48 : Int64)] h0 (some (.int r1)) h1) (q4 : ¬ (r1 = (0 : Int32))) (q5 : xm_V X P d 191 [.long l2.toInt64, .long (1 : Int64), .long (48 : Int64)] h1 (some (.int r2)) h2) (q6 : ¬ (r2 = (0 : Int32))) (q7 : xm_V X P d 280 [.ref l0] h2 none h3) (K : xm_E X P d co_X11_parcel 23 [some (.ref l0), some (.int l1), some (.int l2), some (.int (1000000000 : Int32)), some (.int (0 : Int32)), none] [] h3 ro ho) : xm_E X P d co_X11_parcel 0 [some (.ref l0), some (.int l1), some (.int l2), none, none, none] [] h ro ho := by
  refine xm_E_s r_X11_parcel_0 rfl rfl ?_
  refine xm_E_cv [.ref l0] [] r_X11_parcel_1 rfl rfl (Nat.le_of_ble_eq_true rfl) (xm_rc q1 (by decide)) rfl q0 ?_
  refine xm_E_s r_X11_parcel_2 rfl rfl ?_
  refine xm_E_f q2 ?_
  refine xm_E_s r_X11_parcel_3 rfl rfl ?_
  refine xm_E_s r_X11_parcel_4 rfl rfl ?_
  refine xm_E_s r_X11_parcel_5 rfl rfl ?_
  refine xm_E_s r_X11_parcel_6 rfl rfl ?_
  refine xm_E_cs [.long l1.toInt64, .long (1 : Int64), .long (48 : Int64)] [] r_X11_parcel_7 rfl rfl rfl (Nat.le_of_ble_eq_true rfl) rfl q3 ?_
  refine xm_E_s r_X11_parcel_8 rfl rfl ?_
  refine xm_E_f q4 ?_
  refine xm_E_s r_X11_parcel_9 rfl rfl ?_
  refine xm_E_s r_X11_parcel_10 rfl rfl ?_
  refine xm_E_s r_X11_parcel_11 rfl rfl ?_
  refine xm_E_s r_X11_parcel_12 rfl rfl ?_
  refine xm_E_cs [.long l2.toInt64, .long (1 : Int64), .long (48 : Int64)] [] r_X11_parcel_13 rfl rfl rfl (Nat.le_of_ble_eq_true rfl) rfl q5 ?_
  refine xm_E_s r_X11_parcel_14 rfl rfl ?_
  refine xm_E_f q6 ?_
  refine xm_E_s r_X11_parcel_17 rfl rfl ?_
  refine xm_E_cv [.ref l0] [] r_X11_parcel_18 rfl rfl (Nat.le_of_ble_eq_true rfl) (xm_rc q1 (by decide)) rfl q7 ?_
  refine xm_E_s r_X11_parcel_19 rfl rfl ?_
  refine xm_E_s (ls1 := [some (.ref l0), some (.int l1), some (.int l2), some (.int (1000000000 : Int32)), none, none]) r_X11_parcel_20 rfl rfl ?_
  refine xm_E_s r_X11_parcel_21 rfl rfl ?_
  refine xm_E_s (ls1 := [some (.ref l0), some (.int l1), some (.int l2), some (.int (1000000000 : Int32)), some (.int (0 : Int32)), none]) r_X11_parcel_22 rfl rfl ?_
  exact K
theorem p_X11_parcel_23_0 {X : xm_X} {P : List xm_M} {d : Nat} {h : xm_H} {l0 : Nat} {l1 : Int32} {l2 : Int32} {l3 : Int32} {l4 : Int32} {l5 : Option Value} (q0 : X.1[l0]? = some (.inr 10)) (q1 : h.1 l0 23 ≤ l4) (q2 : l3 = (1000000000 : Int32)) : xm_E X P d co_X11_parcel 23 [some (.ref l0), some (.int l1), some (.int l2), some (.int l3), some (.int l4), l5] [] h (some (.int (-1 : Int32))) h := by
  refine xm_E_s r_X11_parcel_23 rfl rfl ?_
  refine xm_E_s r_X11_parcel_24 rfl rfl ?_
  refine xm_E_s r_X11_parcel_25 rfl (xm_T_gi rfl q0 rfl (Or.inl rfl)) ?_
  refine xm_E_s r_X11_parcel_26 rfl rfl ?_
  refine xm_E_t q1 ?_
  refine xm_E_s r_X11_parcel_52 rfl rfl ?_
  refine xm_E_s r_X11_parcel_53 rfl rfl ?_
  refine xm_E_s r_X11_parcel_54 rfl rfl ?_
  refine xm_E_t q2 ?_
  refine xm_E_s r_X11_parcel_55 rfl rfl ?_
  refine xm_E_s r_X11_parcel_56 rfl rfl ?_
  exact xm_E_iret r_X11_parcel_58 rfl rfl
theorem p_X11_parcel_23_1 {X : xm_X} {P : List xm_M} {d : Nat} {h : xm_H} {l0 : Nat} {l1 : Int32} {l2 : Int32} {l3 : Int32} {l4 : Int32} {l5 : Option Value} (q0 : X.1[l0]? = some (.inr 10)) (q1 : h.1 l0 23 ≤ l4) (q2 : ¬ (l3 = (1000000000 : Int32))) : xm_E X P d co_X11_parcel 23 [some (.ref l0), some (.int l1), some (.int l2), some (.int l3), some (.int l4), l5] [] h (some (.int l3)) h := by
  refine xm_E_s r_X11_parcel_23 rfl rfl ?_
  refine xm_E_s r_X11_parcel_24 rfl rfl ?_
  refine xm_E_s r_X11_parcel_25 rfl (xm_T_gi rfl q0 rfl (Or.inl rfl)) ?_
  refine xm_E_s r_X11_parcel_26 rfl rfl ?_
  refine xm_E_t q1 ?_
  refine xm_E_s r_X11_parcel_52 rfl rfl ?_
  refine xm_E_s r_X11_parcel_53 rfl rfl ?_
  refine xm_E_s r_X11_parcel_54 rfl rfl ?_
  refine xm_E_f q2 ?_
  refine xm_E_s r_X11_parcel_57 rfl rfl ?_
  exact xm_E_iret r_X11_parcel_58 rfl rfl
theorem p_X11_parcel_23_2 {X : xm_X} {P : List xm_M} {d : Nat} {h : xm_H} {l0 : Nat} {l1 : Int32} {l2 : Int32} {l3 : Int32} {l4 : Int32} {l5 : Option Value} {v0 : Nat} {n1 : Nat} {h2 : xm_H} {r2 : Int32} {h3 : xm_H} {r3 : Int32} {h4 : xm_H} {r4 : Int32} {v5 : Nat} {n6 : Nat} {ro : Option Value} {ho : xm_H} (q0 : X.1[l0]? = some (.inr 10)) (q1 : ¬ (h.1 l0 23 ≤ l4)) (q2 : h.2.2 l0 22 = some v0) (q3 : X.1[v0]? = some (.inl (0, n1))) (q4 : ¬ (l4 < 0 ∨ n1 ≤ l4.toNatClampNeg)) (q5 : xm_V X P d 224 [.int (h.1 v0 l4.toNatClampNeg)] h (some (.int r2)) h2) (q6 : r2 = l1) (q7 : xm_V X P d 225 [.int (h.1 v0 l4.toNatClampNeg)] h2 (some (.int r3)) h3) (q8 : r3 = l2) (q9 : xm_V X P d 228 [.int (h.1 v0 l4.toNatClampNeg)] h3 (some (.int r4)) h4) (q10 : r4 = (0 : Int32)) (q11 : h4.2.2 l0 20 = some v5) (q12 : X.1[v5]? = some (.inl (0, n6))) (q13 : ¬ (h.1 v0 l4.toNatClampNeg < 0 ∨ n6 ≤ (h.1 v0 l4.toNatClampNeg).toNatClampNeg)) (K : xm_E X P d co_X11_parcel 23 [some (.ref l0), some (.int l1), some (.int l2), some (.int (if h4.1 v5 ((h.1 v0 l4.toNatClampNeg).toNatClampNeg) < l3 then h4.1 v5 ((h.1 v0 l4.toNatClampNeg).toNatClampNeg) else l3)), some (.int (l4 + (1 : Int32))), some (.int (h.1 v0 l4.toNatClampNeg))] [] h4 ro ho) : xm_E X P d co_X11_parcel 23 [some (.ref l0), some (.int l1), some (.int l2), some (.int l3), some (.int l4), l5] [] h ro ho := by
  refine xm_E_s r_X11_parcel_23 rfl rfl ?_
  refine xm_E_s r_X11_parcel_24 rfl rfl ?_
  refine xm_E_s r_X11_parcel_25 rfl (xm_T_gi rfl q0 rfl (Or.inl rfl)) ?_
  refine xm_E_s r_X11_parcel_26 rfl rfl ?_
  refine xm_E_f q1 ?_
  refine xm_E_s r_X11_parcel_27 rfl rfl ?_
  refine xm_E_s r_X11_parcel_28 rfl (xm_T_gr rfl q0 rfl rfl q2) ?_
  refine xm_E_s r_X11_parcel_29 rfl rfl ?_
  refine xm_E_s r_X11_parcel_30 rfl (xm_T_iald rfl q3 (by decide) q4) ?_
  refine xm_E_s (ls1 := [some (.ref l0), some (.int l1), some (.int l2), some (.int l3), some (.int l4), some (.int (h.1 v0 l4.toNatClampNeg))]) r_X11_parcel_31 rfl rfl ?_
  refine xm_E_s r_X11_parcel_32 rfl rfl ?_
  refine xm_E_cs [.int (h.1 v0 l4.toNatClampNeg)] [] r_X11_parcel_33 rfl rfl rfl (Nat.le_of_ble_eq_true rfl) rfl q5 ?_
  refine xm_E_s r_X11_parcel_34 rfl rfl ?_
  refine xm_E_s r_X11_parcel_35 rfl rfl ?_
  refine xm_E_t q6 ?_
  refine xm_E_s r_X11_parcel_36 rfl rfl ?_
  refine xm_E_cs [.int (h.1 v0 l4.toNatClampNeg)] [] r_X11_parcel_37 rfl rfl rfl (Nat.le_of_ble_eq_true rfl) rfl q7 ?_
  refine xm_E_s r_X11_parcel_38 rfl rfl ?_
  refine xm_E_s r_X11_parcel_39 rfl rfl ?_
  refine xm_E_t q8 ?_
  refine xm_E_s r_X11_parcel_40 rfl rfl ?_
  refine xm_E_cs [.int (h.1 v0 l4.toNatClampNeg)] [] r_X11_parcel_41 rfl rfl rfl (Nat.le_of_ble_eq_true rfl) rfl q9 ?_
  refine xm_E_s r_X11_parcel_42 rfl rfl ?_
  refine xm_E_t q10 ?_
  refine xm_E_s r_X11_parcel_43 rfl rfl ?_
  refine xm_E_s r_X11_parcel_44 rfl rfl ?_
  refine xm_E_s r_X11_parcel_45 rfl (xm_T_gr rfl q0 rfl rfl q11) ?_
  refine xm_E_s r_X11_parcel_46 rfl rfl ?_
  refine xm_E_s r_X11_parcel_47 rfl (xm_T_iald rfl q12 (by decide) q13) ?_
  refine xm_E_s r_X11_parcel_48 rfl rfl ?_
  refine xm_E_s (ls1 := [some (.ref l0), some (.int l1), some (.int l2), some (.int (if h4.1 v5 ((h.1 v0 l4.toNatClampNeg).toNatClampNeg) < l3 then h4.1 v5 ((h.1 v0 l4.toNatClampNeg).toNatClampNeg) else l3)), some (.int l4), some (.int (h.1 v0 l4.toNatClampNeg))]) r_X11_parcel_49 rfl rfl ?_
  refine xm_E_s (ls1 := [some (.ref l0), some (.int l1), some (.int l2), some (.int (if h4.1 v5 ((h.1 v0 l4.toNatClampNeg).toNatClampNeg) < l3 then h4.1 v5 ((h.1 v0 l4.toNatClampNeg).toNatClampNeg) else l3)), some (.int (l4 + (1 : Int32))), some (.int (h.1 v0 l4.toNatClampNeg))]) r_X11_parcel_50 rfl rfl ?_
  refine xm_E_s r_X11_parcel_51 rfl rfl ?_
  exact K
theorem p_X11_parcel_23_3 {X : xm_X} {P : List xm_M} {d : Nat} {h : xm_H} {l0 : Nat} {l1 : Int32} {l2 : Int32} {l3 : Int32} {l4 : Int32} {l5 : Option Value} {v0 : Nat} {n1 : Nat} {h2 : xm_H} {r2 : Int32} {h3 : xm_H} {r3 : Int32} {h4 : xm_H} {r4 : Int32} {ro : Option Value} {ho : xm_H} (q0 : X.1[l0]? = some (.inr 10)) (q1 : ¬ (h.1 l0 23 ≤ l4)) (q2 : h.2.2 l0 22 = some v0) (q3 : X.1[v0]? = some (.inl (0, n1))) (q4 : ¬ (l4 < 0 ∨ n1 ≤ l4.toNatClampNeg)) (q5 : xm_V X P d 224 [.int (h.1 v0 l4.toNatClampNeg)] h (some (.int r2)) h2) (q6 : r2 = l1) (q7 : xm_V X P d 225 [.int (h.1 v0 l4.toNatClampNeg)] h2 (some (.int r3)) h3) (q8 : r3 = l2) (q9 : xm_V X P d 228 [.int (h.1 v0 l4.toNatClampNeg)] h3 (some (.int r4)) h4) (q10 : ¬ (r4 = (0 : Int32))) (K : xm_E X P d co_X11_parcel 23 [some (.ref l0), some (.int l1), some (.int l2), some (.int l3), some (.int (l4 + (1 : Int32))), some (.int (h.1 v0 l4.toNatClampNeg))] [] h4 ro ho) : xm_E X P d co_X11_parcel 23 [some (.ref l0), some (.int l1), some (.int l2), some (.int l3), some (.int l4), l5] [] h ro ho := by
  refine xm_E_s r_X11_parcel_23 rfl rfl ?_
  refine xm_E_s r_X11_parcel_24 rfl rfl ?_
  refine xm_E_s r_X11_parcel_25 rfl (xm_T_gi rfl q0 rfl (Or.inl rfl)) ?_
  refine xm_E_s r_X11_parcel_26 rfl rfl ?_
  refine xm_E_f q1 ?_
  refine xm_E_s r_X11_parcel_27 rfl rfl ?_
  refine xm_E_s r_X11_parcel_28 rfl (xm_T_gr rfl q0 rfl rfl q2) ?_
  refine xm_E_s r_X11_parcel_29 rfl rfl ?_
  refine xm_E_s r_X11_parcel_30 rfl (xm_T_iald rfl q3 (by decide) q4) ?_
  refine xm_E_s (ls1 := [some (.ref l0), some (.int l1), some (.int l2), some (.int l3), some (.int l4), some (.int (h.1 v0 l4.toNatClampNeg))]) r_X11_parcel_31 rfl rfl ?_
  refine xm_E_s r_X11_parcel_32 rfl rfl ?_
  refine xm_E_cs [.int (h.1 v0 l4.toNatClampNeg)] [] r_X11_parcel_33 rfl rfl rfl (Nat.le_of_ble_eq_true rfl) rfl q5 ?_
  refine xm_E_s r_X11_parcel_34 rfl rfl ?_
  refine xm_E_s r_X11_parcel_35 rfl rfl ?_
  refine xm_E_t q6 ?_
  refine xm_E_s r_X11_parcel_36 rfl rfl ?_
  refine xm_E_cs [.int (h.1 v0 l4.toNatClampNeg)] [] r_X11_parcel_37 rfl rfl rfl (Nat.le_of_ble_eq_true rfl) rfl q7 ?_
  refine xm_E_s r_X11_parcel_38 rfl rfl ?_
  refine xm_E_s r_X11_parcel_39 rfl rfl ?_
  refine xm_E_t q8 ?_
  refine xm_E_s r_X11_parcel_40 rfl rfl ?_
  refine xm_E_cs [.int (h.1 v0 l4.toNatClampNeg)] [] r_X11_parcel_41 rfl rfl rfl (Nat.le_of_ble_eq_true rfl) rfl q9 ?_
  refine xm_E_s r_X11_parcel_42 rfl rfl ?_
  refine xm_E_f q10 ?_
  refine xm_E_s (ls1 := [some (.ref l0), some (.int l1), some (.int l2), some (.int l3), some (.int (l4 + (1 : Int32))), some (.int (h.1 v0 l4.toNatClampNeg))]) r_X11_parcel_50 rfl rfl ?_
  refine xm_E_s r_X11_parcel_51 rfl rfl ?_
  exact K
theorem p_X11_parcel_23_4 {X : xm_X} {P : List xm_M} {d : Nat} {h : xm_H} {l0 : Nat} {l1 : Int32} {l2 : Int32} {l3 : Int32} {l4 : Int32} {l5 : Option Value} {v0 : Nat} {n1 : Nat} {h2 : xm_H} {r2 : Int32} {h3 : xm_H} {r3 : Int32} {ro : Option Value} {ho : xm_H} (q0 : X.1[l0]? = some (.inr 10)) (q1 : ¬ (h.1 l0 23 ≤ l4)) (q2 : h.2.2 l0 22 = some v0) (q3 : X.1[v0]? = some (.inl (0, n1))) (q4 : ¬ (l4 < 0 ∨ n1 ≤ l4.toNatClampNeg)) (q5 : xm_V X P d 224 [.int (h.1 v0 l4.toNatClampNeg)] h (some (.int r2)) h2) (q6 : r2 = l1) (q7 : xm_V X P d 225 [.int (h.1 v0 l4.toNatClampNeg)] h2 (some (.int r3)) h3) (q8 : ¬ (r3 = l2)) (K : xm_E X P d co_X11_parcel 23 [some (.ref l0), some (.int l1), some (.int l2), some (.int l3), some (.int (l4 + (1 : Int32))), some (.int (h.1 v0 l4.toNatClampNeg))] [] h3 ro ho) : xm_E X P d co_X11_parcel 23 [some (.ref l0), some (.int l1), some (.int l2), some (.int l3), some (.int l4), l5] [] h ro ho := by
  refine xm_E_s r_X11_parcel_23 rfl rfl ?_
  refine xm_E_s r_X11_parcel_24 rfl rfl ?_
  refine xm_E_s r_X11_parcel_25 rfl (xm_T_gi rfl q0 rfl (Or.inl rfl)) ?_
  refine xm_E_s r_X11_parcel_26 rfl rfl ?_
  refine xm_E_f q1 ?_
  refine xm_E_s r_X11_parcel_27 rfl rfl ?_
  refine xm_E_s r_X11_parcel_28 rfl (xm_T_gr rfl q0 rfl rfl q2) ?_
  refine xm_E_s r_X11_parcel_29 rfl rfl ?_
  refine xm_E_s r_X11_parcel_30 rfl (xm_T_iald rfl q3 (by decide) q4) ?_
  refine xm_E_s (ls1 := [some (.ref l0), some (.int l1), some (.int l2), some (.int l3), some (.int l4), some (.int (h.1 v0 l4.toNatClampNeg))]) r_X11_parcel_31 rfl rfl ?_
  refine xm_E_s r_X11_parcel_32 rfl rfl ?_
  refine xm_E_cs [.int (h.1 v0 l4.toNatClampNeg)] [] r_X11_parcel_33 rfl rfl rfl (Nat.le_of_ble_eq_true rfl) rfl q5 ?_
  refine xm_E_s r_X11_parcel_34 rfl rfl ?_
  refine xm_E_s r_X11_parcel_35 rfl rfl ?_
  refine xm_E_t q6 ?_
  refine xm_E_s r_X11_parcel_36 rfl rfl ?_
  refine xm_E_cs [.int (h.1 v0 l4.toNatClampNeg)] [] r_X11_parcel_37 rfl rfl rfl (Nat.le_of_ble_eq_true rfl) rfl q7 ?_
  refine xm_E_s r_X11_parcel_38 rfl rfl ?_
  refine xm_E_s r_X11_parcel_39 rfl rfl ?_
  refine xm_E_f q8 ?_
  refine xm_E_s (ls1 := [some (.ref l0), some (.int l1), some (.int l2), some (.int l3), some (.int (l4 + (1 : Int32))), some (.int (h.1 v0 l4.toNatClampNeg))]) r_X11_parcel_50 rfl rfl ?_
  refine xm_E_s r_X11_parcel_51 rfl rfl ?_
  exact K
theorem p_X11_parcel_23_5 {X : xm_X} {P : List xm_M} {d : Nat} {h : xm_H} {l0 : Nat} {l1 : Int32} {l2 : Int32} {l3 : Int32} {l4 : Int32} {l5 : Option Value} {v0 : Nat} {n1 : Nat} {h2 : xm_H} {r2 : Int32} {ro : Option Value} {ho : xm_H} (q0 : X.1[l0]? = some (.inr 10)) (q1 : ¬ (h.1 l0 23 ≤ l4)) (q2 : h.2.2 l0 22 = some v0) (q3 : X.1[v0]? = some (.inl (0, n1))) (q4 : ¬ (l4 < 0 ∨ n1 ≤ l4.toNatClampNeg)) (q5 : xm_V X P d 224 [.int (h.1 v0 l4.toNatClampNeg)] h (some (.int r2)) h2) (q6 : ¬ (r2 = l1)) (K : xm_E X P d co_X11_parcel 23 [some (.ref l0), some (.int l1), some (.int l2), some (.int l3), some (.int (l4 + (1 : Int32))), some (.int (h.1 v0 l4.toNatClampNeg))] [] h2 ro ho) : xm_E X P d co_X11_parcel 23 [some (.ref l0), some (.int l1), some (.int l2), some (.int l3), some (.int l4), l5] [] h ro ho := by
  refine xm_E_s r_X11_parcel_23 rfl rfl ?_
  refine xm_E_s r_X11_parcel_24 rfl rfl ?_
  refine xm_E_s r_X11_parcel_25 rfl (xm_T_gi rfl q0 rfl (Or.inl rfl)) ?_
  refine xm_E_s r_X11_parcel_26 rfl rfl ?_
  refine xm_E_f q1 ?_
  refine xm_E_s r_X11_parcel_27 rfl rfl ?_
  refine xm_E_s r_X11_parcel_28 rfl (xm_T_gr rfl q0 rfl rfl q2) ?_
  refine xm_E_s r_X11_parcel_29 rfl rfl ?_
  refine xm_E_s r_X11_parcel_30 rfl (xm_T_iald rfl q3 (by decide) q4) ?_
  refine xm_E_s (ls1 := [some (.ref l0), some (.int l1), some (.int l2), some (.int l3), some (.int l4), some (.int (h.1 v0 l4.toNatClampNeg))]) r_X11_parcel_31 rfl rfl ?_
  refine xm_E_s r_X11_parcel_32 rfl rfl ?_
  refine xm_E_cs [.int (h.1 v0 l4.toNatClampNeg)] [] r_X11_parcel_33 rfl rfl rfl (Nat.le_of_ble_eq_true rfl) rfl q5 ?_
  refine xm_E_s r_X11_parcel_34 rfl rfl ?_
  refine xm_E_s r_X11_parcel_35 rfl rfl ?_
  refine xm_E_f q6 ?_
  refine xm_E_s (ls1 := [some (.ref l0), some (.int l1), some (.int l2), some (.int l3), some (.int (l4 + (1 : Int32))), some (.int (h.1 v0 l4.toNatClampNeg))]) r_X11_parcel_50 rfl rfl ?_
  refine xm_E_s r_X11_parcel_51 rfl rfl ?_
  exact K
theorem r_X11_searchesAll_0 : co_X11_searchesAll[0]? = some ((0, .aload_n 0, 0, 0, 0, 0, 0, 0, []) : xm_I) := rfl
theorem r_X11_searchesAll_1 : co_X11_searchesAll[1]? = some ((1, .aload_n 0, 0, 0, 0, 0, 0, 0, []) : xm_I) := rfl
theorem r_X11_searchesAll_2 : co_X11_searchesAll[2]? = some ((2, .getfield 9, 1381, 10, 1, 2, 0, 0, []) : xm_I) := rfl
theorem r_X11_searchesAll_3 : co_X11_searchesAll[3]? = some ((5, .iconst 3, 0, 0, 0, 0, 3, 0, []) : xm_I) := rfl
theorem r_X11_searchesAll_4 : co_X11_searchesAll[4]? = some ((6, .iaload, 0, 0, 0, 0, 0, 0, []) : xm_I) := rfl
theorem r_X11_searchesAll_5 : co_X11_searchesAll[5]? = some ((7, .iconst 0, 0, 0, 0, 0, 0, 0, []) : xm_I) := rfl
theorem r_X11_searchesAll_6 : co_X11_searchesAll[6]? = some ((8, .iconst (-1), 0, 0, 0, 0, (-1), 0, []) : xm_I) := rfl
theorem r_X11_searchesAll_7 : co_X11_searchesAll[7]? = some ((9, .iconst 0, 0, 0, 0, 0, 0, 0, []) : xm_I) := rfl
theorem r_X11_searchesAll_8 : co_X11_searchesAll[8]? = some ((10, .invokevirtual 423, 1810, 260, 5, 10, 0, 0, []) : xm_I) := rfl
theorem r_X11_searchesAll_9 : co_X11_searchesAll[9]? = some ((13, .pop, 0, 0, 0, 0, 0, 0, []) : xm_I) := rfl
theorem r_X11_searchesAll_10 : co_X11_searchesAll[10]? = some ((14, .return_, 0, 0, 0, 0, 0, 0, []) : xm_I) := rfl
theorem p_X11_searchesAll_0_0 {X : xm_X} {P : List xm_M} {d : Nat} {h : xm_H} {l0 : Nat} {v0 : Nat} {n1 : Nat} {h2 : xm_H} {r2 : Int32} (q0 : X.1[l0]? = some (.inr 10)) (q1 : h.2.2 l0 1 = some v0) (q2 : X.1[v0]? = some (.inl (0, n1))) (q3 : 3 < n1) (q4 : xm_V X P d 260 [.ref l0, .int (h.1 v0 3), .int (0 : Int32), .int (-1 : Int32), .int (0 : Int32)] h (some (.int r2)) h2) : xm_E X P d co_X11_searchesAll 0 [some (.ref l0)] [] h none h2 := by
  refine xm_E_s r_X11_searchesAll_0 rfl rfl ?_
  refine xm_E_s r_X11_searchesAll_1 rfl rfl ?_
  refine xm_E_s r_X11_searchesAll_2 rfl (xm_T_gr rfl q0 rfl rfl q1) ?_
  refine xm_E_s r_X11_searchesAll_3 rfl rfl ?_
  refine xm_E_s r_X11_searchesAll_4 rfl (xm_T_iald rfl q2 (by decide) (fun e => e.elim (fun e => absurd e (by decide)) (fun e => Nat.not_le.mpr q3 e))) ?_
  refine xm_E_s r_X11_searchesAll_5 rfl rfl ?_
  refine xm_E_s r_X11_searchesAll_6 rfl rfl ?_
  refine xm_E_s r_X11_searchesAll_7 rfl rfl ?_
  refine xm_E_cv [.ref l0, .int (h.1 v0 3), .int (0 : Int32), .int (-1 : Int32), .int (0 : Int32)] [] r_X11_searchesAll_8 rfl rfl (Nat.le_of_ble_eq_true rfl) (xm_rc q0 (by decide)) rfl q4 ?_
  refine xm_E_s r_X11_searchesAll_9 rfl rfl ?_
  exact xm_E_ret r_X11_searchesAll_10 rfl
theorem r_X11_parcels_0 : co_X11_parcels[0]? = some ((0, .aload_n 0, 0, 0, 0, 0, 0, 0, []) : xm_I) := rfl
theorem r_X11_parcels_1 : co_X11_parcels[1]? = some ((1, .invokevirtual 324, 1643, 216, 1, 10, 0, 0, []) : xm_I) := rfl
theorem r_X11_parcels_2 : co_X11_parcels[2]? = some ((4, .ifCond .ne 6, 0, 0, 5, 0, 0, 0, []) : xm_I) := rfl
theorem r_X11_parcels_3 : co_X11_parcels[3]? = some ((7, .bipush (-2), 0, 0, 0, 0, (-2), 0, []) : xm_I) := rfl
theorem r_X11_parcels_4 : co_X11_parcels[4]? = some ((9, .ireturn, 0, 0, 0, 0, 0, 0, []) : xm_I) := rfl
theorem r_X11_parcels_5 : co_X11_parcels[5]? = some ((10, .aload_n 0, 0, 0, 0, 0, 0, 0, []) : xm_I) := rfl
theorem r_X11_parcels_6 : co_X11_parcels[6]? = some ((11, .invokevirtual 432, 1892, 280, 1, 10, 0, 0, []) : xm_I) := rfl
theorem r_X11_parcels_7 : co_X11_parcels[7]? = some ((14, .iconst 0, 0, 0, 0, 0, 0, 0, []) : xm_I) := rfl
theorem r_X11_parcels_8 : co_X11_parcels[8]? = some ((15, .istore_n 1, 0, 0, 0, 0, 0, 0, []) : xm_I) := rfl
theorem r_X11_parcels_9 : co_X11_parcels[9]? = some ((16, .iload_n 1, 0, 0, 0, 0, 0, 0, []) : xm_I) := rfl
theorem r_X11_parcels_10 : co_X11_parcels[10]? = some ((17, .aload_n 0, 0, 0, 0, 0, 0, 0, []) : xm_I) := rfl
theorem r_X11_parcels_11 : co_X11_parcels[11]? = some ((18, .getfield 44, 1406, 10, 26, 2, 0, 0, []) : xm_I) := rfl
theorem r_X11_parcels_12 : co_X11_parcels[12]? = some ((21, .arraylength, 0, 0, 0, 0, 0, 0, []) : xm_I) := rfl
theorem r_X11_parcels_13 : co_X11_parcels[13]? = some ((22, .if_icmp .ge 16, 0, 0, 21, 0, 0, 0, []) : xm_I) := rfl
theorem r_X11_parcels_14 : co_X11_parcels[14]? = some ((25, .aload_n 0, 0, 0, 0, 0, 0, 0, []) : xm_I) := rfl
theorem r_X11_parcels_15 : co_X11_parcels[15]? = some ((26, .getfield 44, 1406, 10, 26, 2, 0, 0, []) : xm_I) := rfl
theorem r_X11_parcels_16 : co_X11_parcels[16]? = some ((29, .iload_n 1, 0, 0, 0, 0, 0, 0, []) : xm_I) := rfl
theorem r_X11_parcels_17 : co_X11_parcels[17]? = some ((30, .iconst 0, 0, 0, 0, 0, 0, 0, []) : xm_I) := rfl
theorem r_X11_parcels_18 : co_X11_parcels[18]? = some ((31, .bastore, 0, 0, 0, 0, 0, 0, []) : xm_I) := rfl
theorem r_X11_parcels_19 : co_X11_parcels[19]? = some ((32, .iinc 1 1, 0, 0, 0, 0, 1, 0, []) : xm_I) := rfl
theorem r_X11_parcels_20 : co_X11_parcels[20]? = some ((35, .goto (-19), 0, 0, 9, 0, 0, 0, []) : xm_I) := rfl
theorem r_X11_parcels_21 : co_X11_parcels[21]? = some ((38, .iconst 0, 0, 0, 0, 0, 0, 0, []) : xm_I) := rfl
theorem r_X11_parcels_22 : co_X11_parcels[22]? = some ((39, .istore_n 1, 0, 0, 0, 0, 0, 0, []) : xm_I) := rfl
theorem r_X11_parcels_23 : co_X11_parcels[23]? = some ((40, .iconst 0, 0, 0, 0, 0, 0, 0, []) : xm_I) := rfl
theorem r_X11_parcels_24 : co_X11_parcels[24]? = some ((41, .istore_n 2, 0, 0, 0, 0, 0, 0, []) : xm_I) := rfl
theorem r_X11_parcels_25 : co_X11_parcels[25]? = some ((42, .iload_n 2, 0, 0, 0, 0, 0, 0, []) : xm_I) := rfl
theorem r_X11_parcels_26 : co_X11_parcels[26]? = some ((43, .aload_n 0, 0, 0, 0, 0, 0, 0, []) : xm_I) := rfl
theorem r_X11_parcels_27 : co_X11_parcels[27]? = some ((44, .getfield 387, 1403, 10, 23, 0, 0, 0, []) : xm_I) := rfl
theorem r_X11_parcels_28 : co_X11_parcels[28]? = some ((47, .if_icmp .ge 56, 0, 0, 61, 0, 0, 0, []) : xm_I) := rfl
theorem r_X11_parcels_29 : co_X11_parcels[29]? = some ((50, .bipush 49, 0, 0, 0, 0, 49, 0, []) : xm_I) := rfl
theorem r_X11_parcels_30 : co_X11_parcels[30]? = some ((52, .aload_n 0, 0, 0, 0, 0, 0, 0, []) : xm_I) := rfl
theorem r_X11_parcels_31 : co_X11_parcels[31]? = some ((53, .getfield 41, 1402, 10, 22, 2, 0, 0, []) : xm_I) := rfl
theorem r_X11_parcels_32 : co_X11_parcels[32]? = some ((56, .iload_n 2, 0, 0, 0, 0, 0, 0, []) : xm_I) := rfl
theorem r_X11_parcels_33 : co_X11_parcels[33]? = some ((57, .iaload, 0, 0, 0, 0, 0, 0, []) : xm_I) := rfl
theorem r_X11_parcels_34 : co_X11_parcels[34]? = some ((58, .invokestatic 265, 1674, 224, 1, 0, 0, 0, []) : xm_I) := rfl
theorem r_X11_parcels_35 : co_X11_parcels[35]? = some ((61, .imul, 0, 0, 0, 0, 0, 0, []) : xm_I) := rfl
theorem r_X11_parcels_36 : co_X11_parcels[36]? = some ((62, .aload_n 0, 0, 0, 0, 0, 0, 0, []) : xm_I) := rfl
theorem r_X11_parcels_37 : co_X11_parcels[37]? = some ((63, .getfield 41, 1402, 10, 22, 2, 0, 0, []) : xm_I) := rfl
theorem r_X11_parcels_38 : co_X11_parcels[38]? = some ((66, .iload_n 2, 0, 0, 0, 0, 0, 0, []) : xm_I) := rfl
theorem r_X11_parcels_39 : co_X11_parcels[39]? = some ((67, .iaload, 0, 0, 0, 0, 0, 0, []) : xm_I) := rfl
theorem r_X11_parcels_40 : co_X11_parcels[40]? = some ((68, .invokestatic 268, 1677, 225, 1, 0, 0, 0, []) : xm_I) := rfl
theorem r_X11_parcels_41 : co_X11_parcels[41]? = some ((71, .iadd, 0, 0, 0, 0, 0, 0, []) : xm_I) := rfl
theorem r_X11_parcels_42 : co_X11_parcels[42]? = some ((72, .istore_n 3, 0, 0, 0, 0, 0, 0, []) : xm_I) := rfl
theorem r_X11_parcels_43 : co_X11_parcels[43]? = some ((73, .iload_n 1, 0, 0, 0, 0, 0, 0, []) : xm_I) := rfl
theorem r_X11_parcels_44 : co_X11_parcels[44]? = some ((74, .aload_n 0, 0, 0, 0, 0, 0, 0, []) : xm_I) := rfl
theorem r_X11_parcels_45 : co_X11_parcels[45]? = some ((75, .getfield 44, 1406, 10, 26, 2, 0, 0, []) : xm_I) := rfl
theorem r_X11_parcels_46 : co_X11_parcels[46]? = some ((78, .iload_n 3, 0, 0, 0, 0, 0, 0, []) : xm_I) := rfl
theorem r_X11_parcels_47 : co_X11_parcels[47]? = some ((79, .baload, 0, 0, 0, 0, 0, 0, []) : xm_I) := rfl
theorem r_X11_parcels_48 : co_X11_parcels[48]? = some ((80, .ifCond .eq 7, 0, 0, 51, 0, 0, 0, []) : xm_I) := rfl
theorem r_X11_parcels_49 : co_X11_parcels[49]? = some ((83, .iconst 0, 0, 0, 0, 0, 0, 0, []) : xm_I) := rfl
theorem r_X11_parcels_50 : co_X11_parcels[50]? = some ((84, .goto 4, 0, 0, 52, 0, 0, 0, []) : xm_I) := rfl
theorem r_X11_parcels_51 : co_X11_parcels[51]? = some ((87, .iconst 1, 0, 0, 0, 0, 1, 0, []) : xm_I) := rfl
theorem r_X11_parcels_52 : co_X11_parcels[52]? = some ((88, .iadd, 0, 0, 0, 0, 0, 0, []) : xm_I) := rfl
theorem r_X11_parcels_53 : co_X11_parcels[53]? = some ((89, .istore_n 1, 0, 0, 0, 0, 0, 0, []) : xm_I) := rfl
theorem r_X11_parcels_54 : co_X11_parcels[54]? = some ((90, .aload_n 0, 0, 0, 0, 0, 0, 0, []) : xm_I) := rfl
theorem r_X11_parcels_55 : co_X11_parcels[55]? = some ((91, .getfield 44, 1406, 10, 26, 2, 0, 0, []) : xm_I) := rfl
theorem r_X11_parcels_56 : co_X11_parcels[56]? = some ((94, .iload_n 3, 0, 0, 0, 0, 0, 0, []) : xm_I) := rfl
theorem r_X11_parcels_57 : co_X11_parcels[57]? = some ((95, .iconst 1, 0, 0, 0, 0, 1, 0, []) : xm_I) := rfl
theorem r_X11_parcels_58 : co_X11_parcels[58]? = some ((96, .bastore, 0, 0, 0, 0, 0, 0, []) : xm_I) := rfl
theorem r_X11_parcels_59 : co_X11_parcels[59]? = some ((97, .iinc 2 1, 0, 0, 0, 0, 1, 0, []) : xm_I) := rfl
theorem r_X11_parcels_60 : co_X11_parcels[60]? = some ((100, .goto (-58), 0, 0, 25, 0, 0, 0, []) : xm_I) := rfl
theorem r_X11_parcels_61 : co_X11_parcels[61]? = some ((103, .iload_n 1, 0, 0, 0, 0, 0, 0, []) : xm_I) := rfl
theorem r_X11_parcels_62 : co_X11_parcels[62]? = some ((104, .ireturn, 0, 0, 0, 0, 0, 0, []) : xm_I) := rfl
theorem p_X11_parcels_0_0 {X : xm_X} {P : List xm_M} {d : Nat} {h : xm_H} {l0 : Nat} {h0 : xm_H} {r0 : Int32} (q0 : xm_V X P d 216 [.ref l0] h (some (.int r0)) h0) (q1 : X.1[l0]? = some (.inr 10)) (q2 : r0 = (0 : Int32)) : xm_E X P d co_X11_parcels 0 [some (.ref l0), none, none, none] [] h (some (.int (-2 : Int32))) h0 := by
  refine xm_E_s r_X11_parcels_0 rfl rfl ?_
  refine xm_E_cv [.ref l0] [] r_X11_parcels_1 rfl rfl (Nat.le_of_ble_eq_true rfl) (xm_rc q1 (by decide)) rfl q0 ?_
  refine xm_E_s r_X11_parcels_2 rfl rfl ?_
  refine xm_E_t q2 ?_
  refine xm_E_s r_X11_parcels_3 rfl rfl ?_
  exact xm_E_iret r_X11_parcels_4 rfl rfl
theorem p_X11_parcels_0_1 {X : xm_X} {P : List xm_M} {d : Nat} {h : xm_H} {l0 : Nat} {h0 : xm_H} {r0 : Int32} {h1 : xm_H} {ro : Option Value} {ho : xm_H} (q0 : xm_V X P d 216 [.ref l0] h (some (.int r0)) h0) (q1 : X.1[l0]? = some (.inr 10)) (q2 : ¬ (r0 = (0 : Int32))) (q3 : xm_V X P d 280 [.ref l0] h0 none h1) (K : xm_E X P d co_X11_parcels 9 [some (.ref l0), some (.int (0 : Int32)), none, none] [] h1 ro ho) : xm_E X P d co_X11_parcels 0 [some (.ref l0), none, none, none] [] h ro ho := by
  refine xm_E_s r_X11_parcels_0 rfl rfl ?_
  refine xm_E_cv [.ref l0] [] r_X11_parcels_1 rfl rfl (Nat.le_of_ble_eq_true rfl) (xm_rc q1 (by decide)) rfl q0 ?_
  refine xm_E_s r_X11_parcels_2 rfl rfl ?_
  refine xm_E_f q2 ?_
  refine xm_E_s r_X11_parcels_5 rfl rfl ?_
  refine xm_E_cv [.ref l0] [] r_X11_parcels_6 rfl rfl (Nat.le_of_ble_eq_true rfl) (xm_rc q1 (by decide)) rfl q3 ?_
  refine xm_E_s r_X11_parcels_7 rfl rfl ?_
  refine xm_E_s (ls1 := [some (.ref l0), some (.int (0 : Int32)), none, none]) r_X11_parcels_8 rfl rfl ?_
  exact K
theorem p_X11_parcels_9_0 {X : xm_X} {P : List xm_M} {d : Nat} {h : xm_H} {l0 : Nat} {l1 : Int32} {v0 : Nat} {n1 : Nat} {ro : Option Value} {ho : xm_H} (q0 : X.1[l0]? = some (.inr 10)) (q1 : h.2.2 l0 26 = some v0) (q2 : X.1[v0]? = some (.inl (2, n1))) (q3 : Int32.ofNat n1 ≤ l1) (K : xm_E X P d co_X11_parcels 25 [some (.ref l0), some (.int (0 : Int32)), some (.int (0 : Int32)), none] [] h ro ho) : xm_E X P d co_X11_parcels 9 [some (.ref l0), some (.int l1), none, none] [] h ro ho := by
  refine xm_E_s r_X11_parcels_9 rfl rfl ?_
  refine xm_E_s r_X11_parcels_10 rfl rfl ?_
  refine xm_E_s r_X11_parcels_11 rfl (xm_T_gr rfl q0 rfl rfl q1) ?_
  refine xm_E_s r_X11_parcels_12 rfl (xm_T_alen rfl q2 (by decide)) ?_
  refine xm_E_s r_X11_parcels_13 rfl rfl ?_
  refine xm_E_t q3 ?_
  refine xm_E_s r_X11_parcels_21 rfl rfl ?_
  refine xm_E_s (ls1 := [some (.ref l0), some (.int (0 : Int32)), none, none]) r_X11_parcels_22 rfl rfl ?_
  refine xm_E_s r_X11_parcels_23 rfl rfl ?_
  refine xm_E_s (ls1 := [some (.ref l0), some (.int (0 : Int32)), some (.int (0 : Int32)), none]) r_X11_parcels_24 rfl rfl ?_
  exact K
theorem p_X11_parcels_9_1 {X : xm_X} {P : List xm_M} {d : Nat} {h : xm_H} {l0 : Nat} {l1 : Int32} {v0 : Nat} {n1 : Nat} {ro : Option Value} {ho : xm_H} (q0 : X.1[l0]? = some (.inr 10)) (q1 : h.2.2 l0 26 = some v0) (q2 : X.1[v0]? = some (.inl (2, n1))) (q3 : ¬ (Int32.ofNat n1 ≤ l1)) (q4 : ¬ (l1 < 0 ∨ n1 ≤ l1.toNatClampNeg)) (K : xm_E X P d co_X11_parcels 9 [some (.ref l0), some (.int (l1 + (1 : Int32))), none, none] [] (xm_si h v0 l1.toNatClampNeg (vp_nar .boolean (0 : Int32))) ro ho) : xm_E X P d co_X11_parcels 9 [some (.ref l0), some (.int l1), none, none] [] h ro ho := by
  refine xm_E_s r_X11_parcels_9 rfl rfl ?_
  refine xm_E_s r_X11_parcels_10 rfl rfl ?_
  refine xm_E_s r_X11_parcels_11 rfl (xm_T_gr rfl q0 rfl rfl q1) ?_
  refine xm_E_s r_X11_parcels_12 rfl (xm_T_alen rfl q2 (by decide)) ?_
  refine xm_E_s r_X11_parcels_13 rfl rfl ?_
  refine xm_E_f q3 ?_
  refine xm_E_s r_X11_parcels_14 rfl rfl ?_
  refine xm_E_s r_X11_parcels_15 rfl (xm_T_gr rfl q0 rfl rfl q1) ?_
  refine xm_E_s r_X11_parcels_16 rfl rfl ?_
  refine xm_E_s r_X11_parcels_17 rfl rfl ?_
  refine xm_E_s r_X11_parcels_18 rfl (xm_T_asz rfl q2 q4) ?_
  refine xm_E_s (ls1 := [some (.ref l0), some (.int (l1 + (1 : Int32))), none, none]) r_X11_parcels_19 rfl rfl ?_
  refine xm_E_s r_X11_parcels_20 rfl rfl ?_
  exact K
theorem p_X11_parcels_25_0 {X : xm_X} {P : List xm_M} {d : Nat} {h : xm_H} {l0 : Nat} {l1 : Int32} {l2 : Int32} {l3 : Option Value} (q0 : X.1[l0]? = some (.inr 10)) (q1 : h.1 l0 23 ≤ l2) : xm_E X P d co_X11_parcels 25 [some (.ref l0), some (.int l1), some (.int l2), l3] [] h (some (.int l1)) h := by
  refine xm_E_s r_X11_parcels_25 rfl rfl ?_
  refine xm_E_s r_X11_parcels_26 rfl rfl ?_
  refine xm_E_s r_X11_parcels_27 rfl (xm_T_gi rfl q0 rfl (Or.inl rfl)) ?_
  refine xm_E_s r_X11_parcels_28 rfl rfl ?_
  refine xm_E_t q1 ?_
  refine xm_E_s r_X11_parcels_61 rfl rfl ?_
  exact xm_E_iret r_X11_parcels_62 rfl rfl
theorem p_X11_parcels_25_1 {X : xm_X} {P : List xm_M} {d : Nat} {h : xm_H} {l0 : Nat} {l1 : Int32} {l2 : Int32} {l3 : Option Value} {v0 : Nat} {n1 : Nat} {h2 : xm_H} {r2 : Int32} {v3 : Nat} {n4 : Nat} {h5 : xm_H} {r5 : Int32} {v6 : Nat} {n7 : Nat} {b7 : Nat} {ro : Option Value} {ho : xm_H} (q0 : X.1[l0]? = some (.inr 10)) (q1 : ¬ (h.1 l0 23 ≤ l2)) (q2 : h.2.2 l0 22 = some v0) (q3 : X.1[v0]? = some (.inl (0, n1))) (q4 : ¬ (l2 < 0 ∨ n1 ≤ l2.toNatClampNeg)) (q5 : xm_V X P d 224 [.int (h.1 v0 l2.toNatClampNeg)] h (some (.int r2)) h2) (q6 : h2.2.2 l0 22 = some v3) (q7 : X.1[v3]? = some (.inl (0, n4))) (q8 : ¬ (l2 < 0 ∨ n4 ≤ l2.toNatClampNeg)) (q9 : xm_V X P d 225 [.int (h2.1 v3 l2.toNatClampNeg)] h2 (some (.int r5)) h5) (q10 : h5.2.2 l0 26 = some v6) (q11 : X.1[v6]? = some (.inl (b7, n7))) (q12 : ¬ (((49 : Int32) * r2) + r5 < 0 ∨ n7 ≤ (((49 : Int32) * r2) + r5).toNatClampNeg)) (q13 : 1 ≤ b7 ∧ b7 ≤ 2) (q14 : h5.1 v6 ((((49 : Int32) * r2) + r5).toNatClampNeg) = (0 : Int32)) (q15 : X.1[v6]? = some (.inl (2, n7))) (K : xm_E X P d co_X11_parcels 25 [some (.ref l0), some (.int (l1 + (1 : Int32))), some (.int (l2 + (1 : Int32))), some (.int (((49 : Int32) * r2) + r5))] [] (xm_si h5 v6 ((((49 : Int32) * r2) + r5).toNatClampNeg) (vp_nar .boolean (1 : Int32))) ro ho) : xm_E X P d co_X11_parcels 25 [some (.ref l0), some (.int l1), some (.int l2), l3] [] h ro ho := by
  refine xm_E_s r_X11_parcels_25 rfl rfl ?_
  refine xm_E_s r_X11_parcels_26 rfl rfl ?_
  refine xm_E_s r_X11_parcels_27 rfl (xm_T_gi rfl q0 rfl (Or.inl rfl)) ?_
  refine xm_E_s r_X11_parcels_28 rfl rfl ?_
  refine xm_E_f q1 ?_
  refine xm_E_s r_X11_parcels_29 rfl rfl ?_
  refine xm_E_s r_X11_parcels_30 rfl rfl ?_
  refine xm_E_s r_X11_parcels_31 rfl (xm_T_gr rfl q0 rfl rfl q2) ?_
  refine xm_E_s r_X11_parcels_32 rfl rfl ?_
  refine xm_E_s r_X11_parcels_33 rfl (xm_T_iald rfl q3 (by decide) q4) ?_
  refine xm_E_cs [.int (h.1 v0 l2.toNatClampNeg)] [.int (49 : Int32)] r_X11_parcels_34 rfl rfl rfl (Nat.le_of_ble_eq_true rfl) rfl q5 ?_
  refine xm_E_s r_X11_parcels_35 rfl rfl ?_
  refine xm_E_s r_X11_parcels_36 rfl rfl ?_
  refine xm_E_s r_X11_parcels_37 rfl (xm_T_gr rfl q0 rfl rfl q6) ?_
  refine xm_E_s r_X11_parcels_38 rfl rfl ?_
  refine xm_E_s r_X11_parcels_39 rfl (xm_T_iald rfl q7 (by decide) q8) ?_
  refine xm_E_cs [.int (h2.1 v3 l2.toNatClampNeg)] [.int ((49 : Int32) * r2)] r_X11_parcels_40 rfl rfl rfl (Nat.le_of_ble_eq_true rfl) rfl q9 ?_
  refine xm_E_s r_X11_parcels_41 rfl rfl ?_
  refine xm_E_s (ls1 := [some (.ref l0), some (.int l1), some (.int l2), some (.int (((49 : Int32) * r2) + r5))]) r_X11_parcels_42 rfl rfl ?_
  refine xm_E_s r_X11_parcels_43 rfl rfl ?_
  refine xm_E_s r_X11_parcels_44 rfl rfl ?_
  refine xm_E_s r_X11_parcels_45 rfl (xm_T_gr rfl q0 rfl rfl q10) ?_
  refine xm_E_s r_X11_parcels_46 rfl rfl ?_
  refine xm_E_s r_X11_parcels_47 rfl (xm_T_bald rfl q11 q13 q12) ?_
  refine xm_E_s r_X11_parcels_48 rfl rfl ?_
  refine xm_E_t q14 ?_
  refine xm_E_s r_X11_parcels_51 rfl rfl ?_
  refine xm_E_s r_X11_parcels_52 rfl rfl ?_
  refine xm_E_s (ls1 := [some (.ref l0), some (.int (l1 + (1 : Int32))), some (.int l2), some (.int (((49 : Int32) * r2) + r5))]) r_X11_parcels_53 rfl rfl ?_
  refine xm_E_s r_X11_parcels_54 rfl rfl ?_
  refine xm_E_s r_X11_parcels_55 rfl (xm_T_gr rfl q0 rfl rfl q10) ?_
  refine xm_E_s r_X11_parcels_56 rfl rfl ?_
  refine xm_E_s r_X11_parcels_57 rfl rfl ?_
  refine xm_E_s r_X11_parcels_58 rfl (xm_T_asz rfl q15 q12) ?_
  refine xm_E_s (ls1 := [some (.ref l0), some (.int (l1 + (1 : Int32))), some (.int (l2 + (1 : Int32))), some (.int (((49 : Int32) * r2) + r5))]) r_X11_parcels_59 rfl rfl ?_
  refine xm_E_s r_X11_parcels_60 rfl rfl ?_
  exact K
theorem p_X11_parcels_25_2 {X : xm_X} {P : List xm_M} {d : Nat} {h : xm_H} {l0 : Nat} {l1 : Int32} {l2 : Int32} {l3 : Option Value} {v0 : Nat} {n1 : Nat} {h2 : xm_H} {r2 : Int32} {v3 : Nat} {n4 : Nat} {h5 : xm_H} {r5 : Int32} {v6 : Nat} {n7 : Nat} {b7 : Nat} {ro : Option Value} {ho : xm_H} (q0 : X.1[l0]? = some (.inr 10)) (q1 : ¬ (h.1 l0 23 ≤ l2)) (q2 : h.2.2 l0 22 = some v0) (q3 : X.1[v0]? = some (.inl (0, n1))) (q4 : ¬ (l2 < 0 ∨ n1 ≤ l2.toNatClampNeg)) (q5 : xm_V X P d 224 [.int (h.1 v0 l2.toNatClampNeg)] h (some (.int r2)) h2) (q6 : h2.2.2 l0 22 = some v3) (q7 : X.1[v3]? = some (.inl (0, n4))) (q8 : ¬ (l2 < 0 ∨ n4 ≤ l2.toNatClampNeg)) (q9 : xm_V X P d 225 [.int (h2.1 v3 l2.toNatClampNeg)] h2 (some (.int r5)) h5) (q10 : h5.2.2 l0 26 = some v6) (q11 : X.1[v6]? = some (.inl (b7, n7))) (q12 : ¬ (((49 : Int32) * r2) + r5 < 0 ∨ n7 ≤ (((49 : Int32) * r2) + r5).toNatClampNeg)) (q13 : 1 ≤ b7 ∧ b7 ≤ 2) (q14 : ¬ (h5.1 v6 ((((49 : Int32) * r2) + r5).toNatClampNeg) = (0 : Int32))) (q15 : X.1[v6]? = some (.inl (2, n7))) (K : xm_E X P d co_X11_parcels 25 [some (.ref l0), some (.int (l1 + (0 : Int32))), some (.int (l2 + (1 : Int32))), some (.int (((49 : Int32) * r2) + r5))] [] (xm_si h5 v6 ((((49 : Int32) * r2) + r5).toNatClampNeg) (vp_nar .boolean (1 : Int32))) ro ho) : xm_E X P d co_X11_parcels 25 [some (.ref l0), some (.int l1), some (.int l2), l3] [] h ro ho := by
  refine xm_E_s r_X11_parcels_25 rfl rfl ?_
  refine xm_E_s r_X11_parcels_26 rfl rfl ?_
  refine xm_E_s r_X11_parcels_27 rfl (xm_T_gi rfl q0 rfl (Or.inl rfl)) ?_
  refine xm_E_s r_X11_parcels_28 rfl rfl ?_
  refine xm_E_f q1 ?_
  refine xm_E_s r_X11_parcels_29 rfl rfl ?_
  refine xm_E_s r_X11_parcels_30 rfl rfl ?_
  refine xm_E_s r_X11_parcels_31 rfl (xm_T_gr rfl q0 rfl rfl q2) ?_
  refine xm_E_s r_X11_parcels_32 rfl rfl ?_
  refine xm_E_s r_X11_parcels_33 rfl (xm_T_iald rfl q3 (by decide) q4) ?_
  refine xm_E_cs [.int (h.1 v0 l2.toNatClampNeg)] [.int (49 : Int32)] r_X11_parcels_34 rfl rfl rfl (Nat.le_of_ble_eq_true rfl) rfl q5 ?_
  refine xm_E_s r_X11_parcels_35 rfl rfl ?_
  refine xm_E_s r_X11_parcels_36 rfl rfl ?_
  refine xm_E_s r_X11_parcels_37 rfl (xm_T_gr rfl q0 rfl rfl q6) ?_
  refine xm_E_s r_X11_parcels_38 rfl rfl ?_
  refine xm_E_s r_X11_parcels_39 rfl (xm_T_iald rfl q7 (by decide) q8) ?_
  refine xm_E_cs [.int (h2.1 v3 l2.toNatClampNeg)] [.int ((49 : Int32) * r2)] r_X11_parcels_40 rfl rfl rfl (Nat.le_of_ble_eq_true rfl) rfl q9 ?_
  refine xm_E_s r_X11_parcels_41 rfl rfl ?_
  refine xm_E_s (ls1 := [some (.ref l0), some (.int l1), some (.int l2), some (.int (((49 : Int32) * r2) + r5))]) r_X11_parcels_42 rfl rfl ?_
  refine xm_E_s r_X11_parcels_43 rfl rfl ?_
  refine xm_E_s r_X11_parcels_44 rfl rfl ?_
  refine xm_E_s r_X11_parcels_45 rfl (xm_T_gr rfl q0 rfl rfl q10) ?_
  refine xm_E_s r_X11_parcels_46 rfl rfl ?_
  refine xm_E_s r_X11_parcels_47 rfl (xm_T_bald rfl q11 q13 q12) ?_
  refine xm_E_s r_X11_parcels_48 rfl rfl ?_
  refine xm_E_f q14 ?_
  refine xm_E_s r_X11_parcels_49 rfl rfl ?_
  refine xm_E_s r_X11_parcels_50 rfl rfl ?_
  refine xm_E_s r_X11_parcels_52 rfl rfl ?_
  refine xm_E_s (ls1 := [some (.ref l0), some (.int (l1 + (0 : Int32))), some (.int l2), some (.int (((49 : Int32) * r2) + r5))]) r_X11_parcels_53 rfl rfl ?_
  refine xm_E_s r_X11_parcels_54 rfl rfl ?_
  refine xm_E_s r_X11_parcels_55 rfl (xm_T_gr rfl q0 rfl rfl q10) ?_
  refine xm_E_s r_X11_parcels_56 rfl rfl ?_
  refine xm_E_s r_X11_parcels_57 rfl rfl ?_
  refine xm_E_s r_X11_parcels_58 rfl (xm_T_asz rfl q15 q12) ?_
  refine xm_E_s (ls1 := [some (.ref l0), some (.int (l1 + (0 : Int32))), some (.int (l2 + (1 : Int32))), some (.int (((49 : Int32) * r2) + r5))]) r_X11_parcels_59 rfl rfl ?_
  refine xm_E_s r_X11_parcels_60 rfl rfl ?_
  exact K
theorem r_X11_reach_0 : co_X11_reach[0]? = some ((0, .aload_n 0, 0, 0, 0, 0, 0, 0, []) : xm_I) := rfl
theorem r_X11_reach_1 : co_X11_reach[1]? = some ((1, .invokevirtual 324, 1643, 216, 1, 10, 0, 0, []) : xm_I) := rfl
theorem r_X11_reach_2 : co_X11_reach[2]? = some ((4, .ifCond .eq 15, 0, 0, 9, 0, 0, 0, []) : xm_I) := rfl
theorem r_X11_reach_3 : co_X11_reach[3]? = some ((7, .iload_n 1, 0, 0, 0, 0, 0, 0, []) : xm_I) := rfl
theorem r_X11_reach_4 : co_X11_reach[4]? = some ((8, .i2l, 0, 0, 0, 0, 0, 0, []) : xm_I) := rfl
theorem r_X11_reach_5 : co_X11_reach[5]? = some ((9, .lconst 0, 0, 0, 0, 0, 0, 0, []) : xm_I) := rfl
theorem r_X11_reach_6 : co_X11_reach[6]? = some ((10, .ldc2_w 435, 1904, 0, 0, 0, 0, 20, []) : xm_I) := rfl
theorem r_X11_reach_7 : co_X11_reach[7]? = some ((13, .invokestatic 84, 1503, 191, 3, 0, 0, 0, []) : xm_I) := rfl
theorem r_X11_reach_8 : co_X11_reach[8]? = some ((16, .ifCond .ne 6, 0, 0, 11, 0, 0, 0, []) : xm_I) := rfl
theorem r_X11_reach_9 : co_X11_reach[9]? = some ((19, .bipush (-2), 0, 0, 0, 0, (-2), 0, []) : xm_I) := rfl
theorem r_X11_reach_10 : co_X11_reach[10]? = some ((21, .ireturn, 0, 0, 0, 0, 0, 0, []) : xm_I) := rfl
theorem r_X11_reach_11 : co_X11_reach[11]? = some ((22, .aload_n 0, 0, 0, 0, 0, 0, 0, []) : xm_I) := rfl
theorem r_X11_reach_12 : co_X11_reach[12]? = some ((23, .invokevirtual 432, 1892, 280, 1, 10, 0, 0, []) : xm_I) := rfl
theorem r_X11_reach_13 : co_X11_reach[13]? = some ((26, .iconst 0, 0, 0, 0, 0, 0, 0, []) : xm_I) := rfl
theorem r_X11_reach_14 : co_X11_reach[14]? = some ((27, .istore_n 2, 0, 0, 0, 0, 0, 0, []) : xm_I) := rfl
theorem r_X11_reach_15 : co_X11_reach[15]? = some ((28, .iconst 0, 0, 0, 0, 0, 0, 0, []) : xm_I) := rfl
theorem r_X11_reach_16 : co_X11_reach[16]? = some ((29, .istore_n 3, 0, 0, 0, 0, 0, 0, []) : xm_I) := rfl
theorem r_X11_reach_17 : co_X11_reach[17]? = some ((30, .iload_n 3, 0, 0, 0, 0, 0, 0, []) : xm_I) := rfl
theorem r_X11_reach_18 : co_X11_reach[18]? = some ((31, .aload_n 0, 0, 0, 0, 0, 0, 0, []) : xm_I) := rfl
theorem r_X11_reach_19 : co_X11_reach[19]? = some ((32, .getfield 387, 1403, 10, 23, 0, 0, 0, []) : xm_I) := rfl
theorem r_X11_reach_20 : co_X11_reach[20]? = some ((35, .if_icmp .ge 32, 0, 0, 38, 0, 0, 0, []) : xm_I) := rfl
theorem r_X11_reach_21 : co_X11_reach[21]? = some ((38, .iload_n 2, 0, 0, 0, 0, 0, 0, []) : xm_I) := rfl
theorem r_X11_reach_22 : co_X11_reach[22]? = some ((39, .aload_n 0, 0, 0, 0, 0, 0, 0, []) : xm_I) := rfl
theorem r_X11_reach_23 : co_X11_reach[23]? = some ((40, .getfield 35, 1400, 10, 20, 2, 0, 0, []) : xm_I) := rfl
theorem r_X11_reach_24 : co_X11_reach[24]? = some ((43, .aload_n 0, 0, 0, 0, 0, 0, 0, []) : xm_I) := rfl
theorem r_X11_reach_25 : co_X11_reach[25]? = some ((44, .getfield 41, 1402, 10, 22, 2, 0, 0, []) : xm_I) := rfl
theorem r_X11_reach_26 : co_X11_reach[26]? = some ((47, .iload_n 3, 0, 0, 0, 0, 0, 0, []) : xm_I) := rfl
theorem r_X11_reach_27 : co_X11_reach[27]? = some ((48, .iaload, 0, 0, 0, 0, 0, 0, []) : xm_I) := rfl
theorem r_X11_reach_28 : co_X11_reach[28]? = some ((49, .iaload, 0, 0, 0, 0, 0, 0, []) : xm_I) := rfl
theorem r_X11_reach_29 : co_X11_reach[29]? = some ((50, .iload_n 1, 0, 0, 0, 0, 0, 0, []) : xm_I) := rfl
theorem r_X11_reach_30 : co_X11_reach[30]? = some ((51, .if_icmp .gt 7, 0, 0, 33, 0, 0, 0, []) : xm_I) := rfl
theorem r_X11_reach_31 : co_X11_reach[31]? = some ((54, .iconst 1, 0, 0, 0, 0, 1, 0, []) : xm_I) := rfl
theorem r_X11_reach_32 : co_X11_reach[32]? = some ((55, .goto 4, 0, 0, 34, 0, 0, 0, []) : xm_I) := rfl
theorem r_X11_reach_33 : co_X11_reach[33]? = some ((58, .iconst 0, 0, 0, 0, 0, 0, 0, []) : xm_I) := rfl
theorem r_X11_reach_34 : co_X11_reach[34]? = some ((59, .iadd, 0, 0, 0, 0, 0, 0, []) : xm_I) := rfl
theorem r_X11_reach_35 : co_X11_reach[35]? = some ((60, .istore_n 2, 0, 0, 0, 0, 0, 0, []) : xm_I) := rfl
theorem r_X11_reach_36 : co_X11_reach[36]? = some ((61, .iinc 3 1, 0, 0, 0, 0, 1, 0, []) : xm_I) := rfl
theorem r_X11_reach_37 : co_X11_reach[37]? = some ((64, .goto (-34), 0, 0, 17, 0, 0, 0, []) : xm_I) := rfl
theorem r_X11_reach_38 : co_X11_reach[38]? = some ((67, .iload_n 2, 0, 0, 0, 0, 0, 0, []) : xm_I) := rfl
theorem r_X11_reach_39 : co_X11_reach[39]? = some ((68, .ireturn, 0, 0, 0, 0, 0, 0, []) : xm_I) := rfl
theorem p_X11_reach_0_0 {X : xm_X} {P : List xm_M} {d : Nat} {h : xm_H} {l0 : Nat} {l1 : Int32} {h0 : xm_H} {r0 : Int32} (q0 : xm_V X P d 216 [.ref l0] h (some (.int r0)) h0) (q1 : X.1[l0]? = some (.inr 10)) (q2 : r0 = (0 : Int32)) : xm_E X P d co_X11_reach 0 [some (.ref l0), some (.int l1), none, none] [] h (some (.int (-2 : Int32))) h0 := by
  refine xm_E_s r_X11_reach_0 rfl rfl ?_
  refine xm_E_cv [.ref l0] [] r_X11_reach_1 rfl rfl (Nat.le_of_ble_eq_true rfl) (xm_rc q1 (by decide)) rfl q0 ?_
  refine xm_E_s r_X11_reach_2 rfl rfl ?_
  refine xm_E_t q2 ?_
  refine xm_E_s r_X11_reach_9 rfl rfl ?_
  exact xm_E_iret r_X11_reach_10 rfl rfl
theorem p_X11_reach_0_1 {X : xm_X} {P : List xm_M} {d : Nat} {h : xm_H} {l0 : Nat} {l1 : Int32} {h0 : xm_H} {r0 : Int32} {h1 : xm_H} {r1 : Int32} (q0 : xm_V X P d 216 [.ref l0] h (some (.int r0)) h0) (q1 : X.1[l0]? = some (.inr 10)) (q2 : ¬ (r0 = (0 : Int32))) (q3 : xm_V X P d 191 [.long l1.toInt64, .long (0 : Int64), .long (20 : Int64)] h0 (some (.int r1)) h1) (q4 : r1 = (0 : Int32)) : xm_E X P d co_X11_reach 0 [some (.ref l0), some (.int l1), none, none] [] h (some (.int (-2 : Int32))) h1 := by
  refine xm_E_s r_X11_reach_0 rfl rfl ?_
  refine xm_E_cv [.ref l0] [] r_X11_reach_1 rfl rfl (Nat.le_of_ble_eq_true rfl) (xm_rc q1 (by decide)) rfl q0 ?_
  refine xm_E_s r_X11_reach_2 rfl rfl ?_
  refine xm_E_f q2 ?_
  refine xm_E_s r_X11_reach_3 rfl rfl ?_
  refine xm_E_s r_X11_reach_4 rfl rfl ?_
  refine xm_E_s r_X11_reach_5 rfl rfl ?_
  refine xm_E_s r_X11_reach_6 rfl rfl ?_
  refine xm_E_cs [.long l1.toInt64, .long (0 : Int64), .long (20 : Int64)] [] r_X11_reach_7 rfl rfl rfl (Nat.le_of_ble_eq_true rfl) rfl q3 ?_
  refine xm_E_s r_X11_reach_8 rfl rfl ?_
  refine xm_E_t q4 ?_
  refine xm_E_s r_X11_reach_9 rfl rfl ?_
  exact xm_E_iret r_X11_reach_10 rfl rfl
theorem p_X11_reach_0_2 {X : xm_X} {P : List xm_M} {d : Nat} {h : xm_H} {l0 : Nat} {l1 : Int32} {h0 : xm_H} {r0 : Int32} {h1 : xm_H} {r1 : Int32} {h2 : xm_H} {ro : Option Value} {ho : xm_H} (q0 : xm_V X P d 216 [.ref l0] h (some (.int r0)) h0) (q1 : X.1[l0]? = some (.inr 10)) (q2 : ¬ (r0 = (0 : Int32))) (q3 : xm_V X P d 191 [.long l1.toInt64, .long (0 : Int64), .long (20 : Int64)] h0 (some (.int r1)) h1) (q4 : ¬ (r1 = (0 : Int32))) (q5 : xm_V X P d 280 [.ref l0] h1 none h2) (K : xm_E X P d co_X11_reach 17 [some (.ref l0), some (.int l1), some (.int (0 : Int32)), some (.int (0 : Int32))] [] h2 ro ho) : xm_E X P d co_X11_reach 0 [some (.ref l0), some (.int l1), none, none] [] h ro ho := by
  refine xm_E_s r_X11_reach_0 rfl rfl ?_
  refine xm_E_cv [.ref l0] [] r_X11_reach_1 rfl rfl (Nat.le_of_ble_eq_true rfl) (xm_rc q1 (by decide)) rfl q0 ?_
  refine xm_E_s r_X11_reach_2 rfl rfl ?_
  refine xm_E_f q2 ?_
  refine xm_E_s r_X11_reach_3 rfl rfl ?_
  refine xm_E_s r_X11_reach_4 rfl rfl ?_
  refine xm_E_s r_X11_reach_5 rfl rfl ?_
  refine xm_E_s r_X11_reach_6 rfl rfl ?_
  refine xm_E_cs [.long l1.toInt64, .long (0 : Int64), .long (20 : Int64)] [] r_X11_reach_7 rfl rfl rfl (Nat.le_of_ble_eq_true rfl) rfl q3 ?_
  refine xm_E_s r_X11_reach_8 rfl rfl ?_
  refine xm_E_f q4 ?_
  refine xm_E_s r_X11_reach_11 rfl rfl ?_
  refine xm_E_cv [.ref l0] [] r_X11_reach_12 rfl rfl (Nat.le_of_ble_eq_true rfl) (xm_rc q1 (by decide)) rfl q5 ?_
  refine xm_E_s r_X11_reach_13 rfl rfl ?_
  refine xm_E_s (ls1 := [some (.ref l0), some (.int l1), some (.int (0 : Int32)), none]) r_X11_reach_14 rfl rfl ?_
  refine xm_E_s r_X11_reach_15 rfl rfl ?_
  refine xm_E_s (ls1 := [some (.ref l0), some (.int l1), some (.int (0 : Int32)), some (.int (0 : Int32))]) r_X11_reach_16 rfl rfl ?_
  exact K
theorem p_X11_reach_17_0 {X : xm_X} {P : List xm_M} {d : Nat} {h : xm_H} {l0 : Nat} {l1 : Int32} {l2 : Int32} {l3 : Int32} (q0 : X.1[l0]? = some (.inr 10)) (q1 : h.1 l0 23 ≤ l3) : xm_E X P d co_X11_reach 17 [some (.ref l0), some (.int l1), some (.int l2), some (.int l3)] [] h (some (.int l2)) h := by
  refine xm_E_s r_X11_reach_17 rfl rfl ?_
  refine xm_E_s r_X11_reach_18 rfl rfl ?_
  refine xm_E_s r_X11_reach_19 rfl (xm_T_gi rfl q0 rfl (Or.inl rfl)) ?_
  refine xm_E_s r_X11_reach_20 rfl rfl ?_
  refine xm_E_t q1 ?_
  refine xm_E_s r_X11_reach_38 rfl rfl ?_
  exact xm_E_iret r_X11_reach_39 rfl rfl
theorem p_X11_reach_17_1 {X : xm_X} {P : List xm_M} {d : Nat} {h : xm_H} {l0 : Nat} {l1 : Int32} {l2 : Int32} {l3 : Int32} {v0 : Nat} {v1 : Nat} {n2 : Nat} {n3 : Nat} {ro : Option Value} {ho : xm_H} (q0 : X.1[l0]? = some (.inr 10)) (q1 : ¬ (h.1 l0 23 ≤ l3)) (q2 : h.2.2 l0 20 = some v0) (q3 : h.2.2 l0 22 = some v1) (q4 : X.1[v1]? = some (.inl (0, n2))) (q5 : ¬ (l3 < 0 ∨ n2 ≤ l3.toNatClampNeg)) (q6 : X.1[v0]? = some (.inl (0, n3))) (q7 : ¬ (h.1 v1 l3.toNatClampNeg < 0 ∨ n3 ≤ (h.1 v1 l3.toNatClampNeg).toNatClampNeg)) (q8 : l1 < h.1 v0 ((h.1 v1 l3.toNatClampNeg).toNatClampNeg)) (K : xm_E X P d co_X11_reach 17 [some (.ref l0), some (.int l1), some (.int (l2 + (0 : Int32))), some (.int (l3 + (1 : Int32)))] [] h ro ho) : xm_E X P d co_X11_reach 17 [some (.ref l0), some (.int l1), some (.int l2), some (.int l3)] [] h ro ho := by
  refine xm_E_s r_X11_reach_17 rfl rfl ?_
  refine xm_E_s r_X11_reach_18 rfl rfl ?_
  refine xm_E_s r_X11_reach_19 rfl (xm_T_gi rfl q0 rfl (Or.inl rfl)) ?_
  refine xm_E_s r_X11_reach_20 rfl rfl ?_
  refine xm_E_f q1 ?_
  refine xm_E_s r_X11_reach_21 rfl rfl ?_
  refine xm_E_s r_X11_reach_22 rfl rfl ?_
  refine xm_E_s r_X11_reach_23 rfl (xm_T_gr rfl q0 rfl rfl q2) ?_
  refine xm_E_s r_X11_reach_24 rfl rfl ?_
  refine xm_E_s r_X11_reach_25 rfl (xm_T_gr rfl q0 rfl rfl q3) ?_
  refine xm_E_s r_X11_reach_26 rfl rfl ?_
  refine xm_E_s r_X11_reach_27 rfl (xm_T_iald rfl q4 (by decide) q5) ?_
  refine xm_E_s r_X11_reach_28 rfl (xm_T_iald rfl q6 (by decide) q7) ?_
  refine xm_E_s r_X11_reach_29 rfl rfl ?_
  refine xm_E_s r_X11_reach_30 rfl rfl ?_
  refine xm_E_t q8 ?_
  refine xm_E_s r_X11_reach_33 rfl rfl ?_
  refine xm_E_s r_X11_reach_34 rfl rfl ?_
  refine xm_E_s (ls1 := [some (.ref l0), some (.int l1), some (.int (l2 + (0 : Int32))), some (.int l3)]) r_X11_reach_35 rfl rfl ?_
  refine xm_E_s (ls1 := [some (.ref l0), some (.int l1), some (.int (l2 + (0 : Int32))), some (.int (l3 + (1 : Int32)))]) r_X11_reach_36 rfl rfl ?_
  refine xm_E_s r_X11_reach_37 rfl rfl ?_
  exact K
theorem p_X11_reach_17_2 {X : xm_X} {P : List xm_M} {d : Nat} {h : xm_H} {l0 : Nat} {l1 : Int32} {l2 : Int32} {l3 : Int32} {v0 : Nat} {v1 : Nat} {n2 : Nat} {n3 : Nat} {ro : Option Value} {ho : xm_H} (q0 : X.1[l0]? = some (.inr 10)) (q1 : ¬ (h.1 l0 23 ≤ l3)) (q2 : h.2.2 l0 20 = some v0) (q3 : h.2.2 l0 22 = some v1) (q4 : X.1[v1]? = some (.inl (0, n2))) (q5 : ¬ (l3 < 0 ∨ n2 ≤ l3.toNatClampNeg)) (q6 : X.1[v0]? = some (.inl (0, n3))) (q7 : ¬ (h.1 v1 l3.toNatClampNeg < 0 ∨ n3 ≤ (h.1 v1 l3.toNatClampNeg).toNatClampNeg)) (q8 : ¬ (l1 < h.1 v0 ((h.1 v1 l3.toNatClampNeg).toNatClampNeg))) (K : xm_E X P d co_X11_reach 17 [some (.ref l0), some (.int l1), some (.int (l2 + (1 : Int32))), some (.int (l3 + (1 : Int32)))] [] h ro ho) : xm_E X P d co_X11_reach 17 [some (.ref l0), some (.int l1), some (.int l2), some (.int l3)] [] h ro ho := by
  refine xm_E_s r_X11_reach_17 rfl rfl ?_
  refine xm_E_s r_X11_reach_18 rfl rfl ?_
  refine xm_E_s r_X11_reach_19 rfl (xm_T_gi rfl q0 rfl (Or.inl rfl)) ?_
  refine xm_E_s r_X11_reach_20 rfl rfl ?_
  refine xm_E_f q1 ?_
  refine xm_E_s r_X11_reach_21 rfl rfl ?_
  refine xm_E_s r_X11_reach_22 rfl rfl ?_
  refine xm_E_s r_X11_reach_23 rfl (xm_T_gr rfl q0 rfl rfl q2) ?_
  refine xm_E_s r_X11_reach_24 rfl rfl ?_
  refine xm_E_s r_X11_reach_25 rfl (xm_T_gr rfl q0 rfl rfl q3) ?_
  refine xm_E_s r_X11_reach_26 rfl rfl ?_
  refine xm_E_s r_X11_reach_27 rfl (xm_T_iald rfl q4 (by decide) q5) ?_
  refine xm_E_s r_X11_reach_28 rfl (xm_T_iald rfl q6 (by decide) q7) ?_
  refine xm_E_s r_X11_reach_29 rfl rfl ?_
  refine xm_E_s r_X11_reach_30 rfl rfl ?_
  refine xm_E_f q8 ?_
  refine xm_E_s r_X11_reach_31 rfl rfl ?_
  refine xm_E_s r_X11_reach_32 rfl rfl ?_
  refine xm_E_s r_X11_reach_34 rfl rfl ?_
  refine xm_E_s (ls1 := [some (.ref l0), some (.int l1), some (.int (l2 + (1 : Int32))), some (.int l3)]) r_X11_reach_35 rfl rfl ?_
  refine xm_E_s (ls1 := [some (.ref l0), some (.int l1), some (.int (l2 + (1 : Int32))), some (.int (l3 + (1 : Int32)))]) r_X11_reach_36 rfl rfl ?_
  refine xm_E_s r_X11_reach_37 rfl rfl ?_
  exact K
theorem r_X11_most_0 : co_X11_most[0]? = some ((0, .aload_n 0, 0, 0, 0, 0, 0, 0, []) : xm_I) := rfl
theorem r_X11_most_1 : co_X11_most[1]? = some ((1, .invokevirtual 324, 1643, 216, 1, 10, 0, 0, []) : xm_I) := rfl
theorem r_X11_most_2 : co_X11_most[2]? = some ((4, .ifCond .ne 6, 0, 0, 5, 0, 0, 0, []) : xm_I) := rfl
theorem r_X11_most_3 : co_X11_most[3]? = some ((7, .bipush (-2), 0, 0, 0, 0, (-2), 0, []) : xm_I) := rfl
theorem r_X11_most_4 : co_X11_most[4]? = some ((9, .ireturn, 0, 0, 0, 0, 0, 0, []) : xm_I) := rfl
theorem r_X11_most_5 : co_X11_most[5]? = some ((10, .aload_n 0, 0, 0, 0, 0, 0, 0, []) : xm_I) := rfl
theorem r_X11_most_6 : co_X11_most[6]? = some ((11, .invokevirtual 432, 1892, 280, 1, 10, 0, 0, []) : xm_I) := rfl
theorem r_X11_most_7 : co_X11_most[7]? = some ((14, .iconst 0, 0, 0, 0, 0, 0, 0, []) : xm_I) := rfl
theorem r_X11_most_8 : co_X11_most[8]? = some ((15, .istore_n 1, 0, 0, 0, 0, 0, 0, []) : xm_I) := rfl
theorem r_X11_most_9 : co_X11_most[9]? = some ((16, .iconst 0, 0, 0, 0, 0, 0, 0, []) : xm_I) := rfl
theorem r_X11_most_10 : co_X11_most[10]? = some ((17, .istore_n 2, 0, 0, 0, 0, 0, 0, []) : xm_I) := rfl
theorem r_X11_most_11 : co_X11_most[11]? = some ((18, .iload_n 2, 0, 0, 0, 0, 0, 0, []) : xm_I) := rfl
theorem r_X11_most_12 : co_X11_most[12]? = some ((19, .aload_n 0, 0, 0, 0, 0, 0, 0, []) : xm_I) := rfl
theorem r_X11_most_13 : co_X11_most[13]? = some ((20, .getfield 387, 1403, 10, 23, 0, 0, 0, []) : xm_I) := rfl
theorem r_X11_most_14 : co_X11_most[14]? = some ((23, .if_icmp .ge 24, 0, 0, 26, 0, 0, 0, []) : xm_I) := rfl
theorem r_X11_most_15 : co_X11_most[15]? = some ((26, .iload_n 1, 0, 0, 0, 0, 0, 0, []) : xm_I) := rfl
theorem r_X11_most_16 : co_X11_most[16]? = some ((27, .aload_n 0, 0, 0, 0, 0, 0, 0, []) : xm_I) := rfl
theorem r_X11_most_17 : co_X11_most[17]? = some ((28, .aload_n 0, 0, 0, 0, 0, 0, 0, []) : xm_I) := rfl
theorem r_X11_most_18 : co_X11_most[18]? = some ((29, .getfield 41, 1402, 10, 22, 2, 0, 0, []) : xm_I) := rfl
theorem r_X11_most_19 : co_X11_most[19]? = some ((32, .iload_n 2, 0, 0, 0, 0, 0, 0, []) : xm_I) := rfl
theorem r_X11_most_20 : co_X11_most[20]? = some ((33, .iaload, 0, 0, 0, 0, 0, 0, []) : xm_I) := rfl
theorem r_X11_most_21 : co_X11_most[21]? = some ((34, .invokevirtual 317, 1719, 237, 2, 10, 0, 0, []) : xm_I) := rfl
theorem r_X11_most_22 : co_X11_most[22]? = some ((37, .invokestatic 437, 1909, 0, 0, 2, 0, 0, []) : xm_I) := rfl
theorem r_X11_most_23 : co_X11_most[23]? = some ((40, .istore_n 1, 0, 0, 0, 0, 0, 0, []) : xm_I) := rfl
theorem r_X11_most_24 : co_X11_most[24]? = some ((41, .iinc 2 1, 0, 0, 0, 0, 1, 0, []) : xm_I) := rfl
theorem r_X11_most_25 : co_X11_most[25]? = some ((44, .goto (-26), 0, 0, 11, 0, 0, 0, []) : xm_I) := rfl
theorem r_X11_most_26 : co_X11_most[26]? = some ((47, .iload_n 1, 0, 0, 0, 0, 0, 0, []) : xm_I) := rfl
theorem r_X11_most_27 : co_X11_most[27]? = some ((48, .ireturn, 0, 0, 0, 0, 0, 0, []) : xm_I) := rfl
theorem p_X11_most_0_0 {X : xm_X} {P : List xm_M} {d : Nat} {h : xm_H} {l0 : Nat} {h0 : xm_H} {r0 : Int32} (q0 : xm_V X P d 216 [.ref l0] h (some (.int r0)) h0) (q1 : X.1[l0]? = some (.inr 10)) (q2 : r0 = (0 : Int32)) : xm_E X P d co_X11_most 0 [some (.ref l0), none, none] [] h (some (.int (-2 : Int32))) h0 := by
  refine xm_E_s r_X11_most_0 rfl rfl ?_
  refine xm_E_cv [.ref l0] [] r_X11_most_1 rfl rfl (Nat.le_of_ble_eq_true rfl) (xm_rc q1 (by decide)) rfl q0 ?_
  refine xm_E_s r_X11_most_2 rfl rfl ?_
  refine xm_E_t q2 ?_
  refine xm_E_s r_X11_most_3 rfl rfl ?_
  exact xm_E_iret r_X11_most_4 rfl rfl
theorem p_X11_most_0_1 {X : xm_X} {P : List xm_M} {d : Nat} {h : xm_H} {l0 : Nat} {h0 : xm_H} {r0 : Int32} {h1 : xm_H} {ro : Option Value} {ho : xm_H} (q0 : xm_V X P d 216 [.ref l0] h (some (.int r0)) h0) (q1 : X.1[l0]? = some (.inr 10)) (q2 : ¬ (r0 = (0 : Int32))) (q3 : xm_V X P d 280 [.ref l0] h0 none h1) (K : xm_E X P d co_X11_most 11 [some (.ref l0), some (.int (0 : Int32)), some (.int (0 : Int32))] [] h1 ro ho) : xm_E X P d co_X11_most 0 [some (.ref l0), none, none] [] h ro ho := by
  refine xm_E_s r_X11_most_0 rfl rfl ?_
  refine xm_E_cv [.ref l0] [] r_X11_most_1 rfl rfl (Nat.le_of_ble_eq_true rfl) (xm_rc q1 (by decide)) rfl q0 ?_
  refine xm_E_s r_X11_most_2 rfl rfl ?_
  refine xm_E_f q2 ?_
  refine xm_E_s r_X11_most_5 rfl rfl ?_
  refine xm_E_cv [.ref l0] [] r_X11_most_6 rfl rfl (Nat.le_of_ble_eq_true rfl) (xm_rc q1 (by decide)) rfl q3 ?_
  refine xm_E_s r_X11_most_7 rfl rfl ?_
  refine xm_E_s (ls1 := [some (.ref l0), some (.int (0 : Int32)), none]) r_X11_most_8 rfl rfl ?_
  refine xm_E_s r_X11_most_9 rfl rfl ?_
  refine xm_E_s (ls1 := [some (.ref l0), some (.int (0 : Int32)), some (.int (0 : Int32))]) r_X11_most_10 rfl rfl ?_
  exact K
theorem p_X11_most_11_0 {X : xm_X} {P : List xm_M} {d : Nat} {h : xm_H} {l0 : Nat} {l1 : Int32} {l2 : Int32} (q0 : X.1[l0]? = some (.inr 10)) (q1 : h.1 l0 23 ≤ l2) : xm_E X P d co_X11_most 11 [some (.ref l0), some (.int l1), some (.int l2)] [] h (some (.int l1)) h := by
  refine xm_E_s r_X11_most_11 rfl rfl ?_
  refine xm_E_s r_X11_most_12 rfl rfl ?_
  refine xm_E_s r_X11_most_13 rfl (xm_T_gi rfl q0 rfl (Or.inl rfl)) ?_
  refine xm_E_s r_X11_most_14 rfl rfl ?_
  refine xm_E_t q1 ?_
  refine xm_E_s r_X11_most_26 rfl rfl ?_
  exact xm_E_iret r_X11_most_27 rfl rfl
theorem p_X11_most_11_1 {X : xm_X} {P : List xm_M} {d : Nat} {h : xm_H} {l0 : Nat} {l1 : Int32} {l2 : Int32} {v0 : Nat} {n1 : Nat} {h2 : xm_H} {r2 : Int32} {ro : Option Value} {ho : xm_H} (q0 : X.1[l0]? = some (.inr 10)) (q1 : ¬ (h.1 l0 23 ≤ l2)) (q2 : h.2.2 l0 22 = some v0) (q3 : X.1[v0]? = some (.inl (0, n1))) (q4 : ¬ (l2 < 0 ∨ n1 ≤ l2.toNatClampNeg)) (q5 : xm_V X P d 237 [.ref l0, .int (h.1 v0 l2.toNatClampNeg)] h (some (.int r2)) h2) (K : xm_E X P d co_X11_most 11 [some (.ref l0), some (.int (if l1 < r2 then r2 else l1)), some (.int (l2 + (1 : Int32)))] [] h2 ro ho) : xm_E X P d co_X11_most 11 [some (.ref l0), some (.int l1), some (.int l2)] [] h ro ho := by
  refine xm_E_s r_X11_most_11 rfl rfl ?_
  refine xm_E_s r_X11_most_12 rfl rfl ?_
  refine xm_E_s r_X11_most_13 rfl (xm_T_gi rfl q0 rfl (Or.inl rfl)) ?_
  refine xm_E_s r_X11_most_14 rfl rfl ?_
  refine xm_E_f q1 ?_
  refine xm_E_s r_X11_most_15 rfl rfl ?_
  refine xm_E_s r_X11_most_16 rfl rfl ?_
  refine xm_E_s r_X11_most_17 rfl rfl ?_
  refine xm_E_s r_X11_most_18 rfl (xm_T_gr rfl q0 rfl rfl q2) ?_
  refine xm_E_s r_X11_most_19 rfl rfl ?_
  refine xm_E_s r_X11_most_20 rfl (xm_T_iald rfl q3 (by decide) q4) ?_
  refine xm_E_cv [.ref l0, .int (h.1 v0 l2.toNatClampNeg)] [.int l1] r_X11_most_21 rfl rfl (Nat.le_of_ble_eq_true rfl) (xm_rc q0 (by decide)) rfl q5 ?_
  refine xm_E_s r_X11_most_22 rfl rfl ?_
  refine xm_E_s (ls1 := [some (.ref l0), some (.int (if l1 < r2 then r2 else l1)), some (.int l2)]) r_X11_most_23 rfl rfl ?_
  refine xm_E_s (ls1 := [some (.ref l0), some (.int (if l1 < r2 then r2 else l1)), some (.int (l2 + (1 : Int32)))]) r_X11_most_24 rfl rfl ?_
  refine xm_E_s r_X11_most_25 rfl rfl ?_
  exact K
theorem r_X11_ways_0 : co_X11_ways[0]? = some ((0, .aload_n 0, 0, 0, 0, 0, 0, 0, []) : xm_I) := rfl
theorem r_X11_ways_1 : co_X11_ways[1]? = some ((1, .invokevirtual 324, 1643, 216, 1, 10, 0, 0, []) : xm_I) := rfl
theorem r_X11_ways_2 : co_X11_ways[2]? = some ((4, .ifCond .eq 15, 0, 0, 9, 0, 0, 0, []) : xm_I) := rfl
theorem r_X11_ways_3 : co_X11_ways[3]? = some ((7, .iload_n 1, 0, 0, 0, 0, 0, 0, []) : xm_I) := rfl
theorem r_X11_ways_4 : co_X11_ways[4]? = some ((8, .i2l, 0, 0, 0, 0, 0, 0, []) : xm_I) := rfl
theorem r_X11_ways_5 : co_X11_ways[5]? = some ((9, .lconst 0, 0, 0, 0, 0, 0, 0, []) : xm_I) := rfl
theorem r_X11_ways_6 : co_X11_ways[6]? = some ((10, .ldc2_w 440, 1914, 0, 0, 0, 0, 12, []) : xm_I) := rfl
theorem r_X11_ways_7 : co_X11_ways[7]? = some ((13, .invokestatic 84, 1503, 191, 3, 0, 0, 0, []) : xm_I) := rfl
theorem r_X11_ways_8 : co_X11_ways[8]? = some ((16, .ifCond .ne 7, 0, 0, 11, 0, 0, 0, []) : xm_I) := rfl
theorem r_X11_ways_9 : co_X11_ways[9]? = some ((19, .ldc2_w 300, 1699, 0, 0, 0, 0, (-2), []) : xm_I) := rfl
theorem r_X11_ways_10 : co_X11_ways[10]? = some ((22, .lreturn, 0, 0, 0, 0, 0, 0, []) : xm_I) := rfl
theorem r_X11_ways_11 : co_X11_ways[11]? = some ((23, .aload_n 0, 0, 0, 0, 0, 0, 0, []) : xm_I) := rfl
theorem r_X11_ways_12 : co_X11_ways[12]? = some ((24, .invokevirtual 331, 1651, 218, 1, 10, 0, 0, []) : xm_I) := rfl
theorem r_X11_ways_13 : co_X11_ways[13]? = some ((27, .istore_n 2, 0, 0, 0, 0, 0, 0, []) : xm_I) := rfl
theorem r_X11_ways_14 : co_X11_ways[14]? = some ((28, .iload_n 2, 0, 0, 0, 0, 0, 0, []) : xm_I) := rfl
theorem r_X11_ways_15 : co_X11_ways[15]? = some ((29, .invokestatic 280, 1686, 228, 1, 0, 0, 0, []) : xm_I) := rfl
theorem r_X11_ways_16 : co_X11_ways[16]? = some ((32, .ifCond .eq 5, 0, 0, 19, 0, 0, 0, []) : xm_I) := rfl
theorem r_X11_ways_17 : co_X11_ways[17]? = some ((35, .lconst 0, 0, 0, 0, 0, 0, 0, []) : xm_I) := rfl
theorem r_X11_ways_18 : co_X11_ways[18]? = some ((36, .lreturn, 0, 0, 0, 0, 0, 0, []) : xm_I) := rfl
theorem r_X11_ways_19 : co_X11_ways[19]? = some ((37, .aload_n 0, 0, 0, 0, 0, 0, 0, []) : xm_I) := rfl
theorem r_X11_ways_20 : co_X11_ways[20]? = some ((38, .iload_n 1, 0, 0, 0, 0, 0, 0, []) : xm_I) := rfl
theorem r_X11_ways_21 : co_X11_ways[21]? = some ((39, .iload_n 2, 0, 0, 0, 0, 0, 0, []) : xm_I) := rfl
theorem r_X11_ways_22 : co_X11_ways[22]? = some ((40, .invokevirtual 442, 1915, 285, 3, 10, 0, 0, []) : xm_I) := rfl
theorem r_X11_ways_23 : co_X11_ways[23]? = some ((43, .aload_n 0, 0, 0, 0, 0, 0, 0, []) : xm_I) := rfl
theorem r_X11_ways_24 : co_X11_ways[24]? = some ((44, .getfield 47, 1407, 10, 27, 2, 0, 0, []) : xm_I) := rfl
theorem r_X11_ways_25 : co_X11_ways[25]? = some ((47, .aload_n 0, 0, 0, 0, 0, 0, 0, []) : xm_I) := rfl
theorem r_X11_ways_26 : co_X11_ways[26]? = some ((48, .invokevirtual 308, 1659, 220, 1, 10, 0, 0, []) : xm_I) := rfl
theorem r_X11_ways_27 : co_X11_ways[27]? = some ((51, .laload, 0, 0, 0, 0, 0, 0, []) : xm_I) := rfl
theorem r_X11_ways_28 : co_X11_ways[28]? = some ((52, .lreturn, 0, 0, 0, 0, 0, 0, []) : xm_I) := rfl
theorem p_X11_ways_0_0 {X : xm_X} {P : List xm_M} {d : Nat} {h : xm_H} {l0 : Nat} {l1 : Int32} {h0 : xm_H} {r0 : Int32} (q0 : xm_V X P d 216 [.ref l0] h (some (.int r0)) h0) (q1 : X.1[l0]? = some (.inr 10)) (q2 : r0 = (0 : Int32)) : xm_E X P d co_X11_ways 0 [some (.ref l0), some (.int l1), none] [] h (some (.long (-2 : Int64))) h0 := by
  refine xm_E_s r_X11_ways_0 rfl rfl ?_
  refine xm_E_cv [.ref l0] [] r_X11_ways_1 rfl rfl (Nat.le_of_ble_eq_true rfl) (xm_rc q1 (by decide)) rfl q0 ?_
  refine xm_E_s r_X11_ways_2 rfl rfl ?_
  refine xm_E_t q2 ?_
  refine xm_E_s r_X11_ways_9 rfl rfl ?_
  exact xm_E_lret r_X11_ways_10 rfl
theorem p_X11_ways_0_1 {X : xm_X} {P : List xm_M} {d : Nat} {h : xm_H} {l0 : Nat} {l1 : Int32} {h0 : xm_H} {r0 : Int32} {h1 : xm_H} {r1 : Int32} (q0 : xm_V X P d 216 [.ref l0] h (some (.int r0)) h0) (q1 : X.1[l0]? = some (.inr 10)) (q2 : ¬ (r0 = (0 : Int32))) (q3 : xm_V X P d 191 [.long l1.toInt64, .long (0 : Int64), .long (12 : Int64)] h0 (some (.int r1)) h1) (q4 : r1 = (0 : Int32)) : xm_E X P d co_X11_ways 0 [some (.ref l0), some (.int l1), none] [] h (some (.long (-2 : Int64))) h1 := by
  refine xm_E_s r_X11_ways_0 rfl rfl ?_
  refine xm_E_cv [.ref l0] [] r_X11_ways_1 rfl rfl (Nat.le_of_ble_eq_true rfl) (xm_rc q1 (by decide)) rfl q0 ?_
  refine xm_E_s r_X11_ways_2 rfl rfl ?_
  refine xm_E_f q2 ?_
  refine xm_E_s r_X11_ways_3 rfl rfl ?_
  refine xm_E_s r_X11_ways_4 rfl rfl ?_
  refine xm_E_s r_X11_ways_5 rfl rfl ?_
  refine xm_E_s r_X11_ways_6 rfl rfl ?_
  refine xm_E_cs [.long l1.toInt64, .long (0 : Int64), .long (12 : Int64)] [] r_X11_ways_7 rfl rfl rfl (Nat.le_of_ble_eq_true rfl) rfl q3 ?_
  refine xm_E_s r_X11_ways_8 rfl rfl ?_
  refine xm_E_t q4 ?_
  refine xm_E_s r_X11_ways_9 rfl rfl ?_
  exact xm_E_lret r_X11_ways_10 rfl
theorem p_X11_ways_0_2 {X : xm_X} {P : List xm_M} {d : Nat} {h : xm_H} {l0 : Nat} {l1 : Int32} {h0 : xm_H} {r0 : Int32} {h1 : xm_H} {r1 : Int32} {h2 : xm_H} {r2 : Int32} {h3 : xm_H} {r3 : Int32} {h4 : xm_H} {v5 : Nat} {h6 : xm_H} {r6 : Int32} {n7 : Nat} (q0 : xm_V X P d 216 [.ref l0] h (some (.int r0)) h0) (q1 : X.1[l0]? = some (.inr 10)) (q2 : ¬ (r0 = (0 : Int32))) (q3 : xm_V X P d 191 [.long l1.toInt64, .long (0 : Int64), .long (12 : Int64)] h0 (some (.int r1)) h1) (q4 : ¬ (r1 = (0 : Int32))) (q5 : xm_V X P d 218 [.ref l0] h1 (some (.int r2)) h2) (q6 : xm_V X P d 228 [.int r2] h2 (some (.int r3)) h3) (q7 : r3 = (0 : Int32)) (q8 : xm_V X P d 285 [.ref l0, .int l1, .int r2] h3 none h4) (q9 : h4.2.2 l0 27 = some v5) (q10 : xm_V X P d 220 [.ref l0] h4 (some (.int r6)) h6) (q11 : X.1[v5]? = some (.inl (3, n7))) (q12 : ¬ (r6 < 0 ∨ n7 ≤ r6.toNatClampNeg)) : xm_E X P d co_X11_ways 0 [some (.ref l0), some (.int l1), none] [] h (some (.long (h6.2.1 v5 r6.toNatClampNeg))) h6 := by
  refine xm_E_s r_X11_ways_0 rfl rfl ?_
  refine xm_E_cv [.ref l0] [] r_X11_ways_1 rfl rfl (Nat.le_of_ble_eq_true rfl) (xm_rc q1 (by decide)) rfl q0 ?_
  refine xm_E_s r_X11_ways_2 rfl rfl ?_
  refine xm_E_f q2 ?_
  refine xm_E_s r_X11_ways_3 rfl rfl ?_
  refine xm_E_s r_X11_ways_4 rfl rfl ?_
  refine xm_E_s r_X11_ways_5 rfl rfl ?_
  refine xm_E_s r_X11_ways_6 rfl rfl ?_
  refine xm_E_cs [.long l1.toInt64, .long (0 : Int64), .long (12 : Int64)] [] r_X11_ways_7 rfl rfl rfl (Nat.le_of_ble_eq_true rfl) rfl q3 ?_
  refine xm_E_s r_X11_ways_8 rfl rfl ?_
  refine xm_E_f q4 ?_
  refine xm_E_s r_X11_ways_11 rfl rfl ?_
  refine xm_E_cv [.ref l0] [] r_X11_ways_12 rfl rfl (Nat.le_of_ble_eq_true rfl) (xm_rc q1 (by decide)) rfl q5 ?_
  refine xm_E_s (ls1 := [some (.ref l0), some (.int l1), some (.int r2)]) r_X11_ways_13 rfl rfl ?_
  refine xm_E_s r_X11_ways_14 rfl rfl ?_
  refine xm_E_cs [.int r2] [] r_X11_ways_15 rfl rfl rfl (Nat.le_of_ble_eq_true rfl) rfl q6 ?_
  refine xm_E_s r_X11_ways_16 rfl rfl ?_
  refine xm_E_t q7 ?_
  refine xm_E_s r_X11_ways_19 rfl rfl ?_
  refine xm_E_s r_X11_ways_20 rfl rfl ?_
  refine xm_E_s r_X11_ways_21 rfl rfl ?_
  refine xm_E_cv [.ref l0, .int l1, .int r2] [] r_X11_ways_22 rfl rfl (Nat.le_of_ble_eq_true rfl) (xm_rc q1 (by decide)) rfl q8 ?_
  refine xm_E_s r_X11_ways_23 rfl rfl ?_
  refine xm_E_s r_X11_ways_24 rfl (xm_T_gr rfl q1 rfl rfl q9) ?_
  refine xm_E_s r_X11_ways_25 rfl rfl ?_
  refine xm_E_cv [.ref l0] [.ref v5] r_X11_ways_26 rfl rfl (Nat.le_of_ble_eq_true rfl) (xm_rc q1 (by decide)) rfl q10 ?_
  refine xm_E_s r_X11_ways_27 rfl (xm_T_lald rfl q11 q12) ?_
  exact xm_E_lret r_X11_ways_28 rfl
theorem p_X11_ways_0_3 {X : xm_X} {P : List xm_M} {d : Nat} {h : xm_H} {l0 : Nat} {l1 : Int32} {h0 : xm_H} {r0 : Int32} {h1 : xm_H} {r1 : Int32} {h2 : xm_H} {r2 : Int32} {h3 : xm_H} {r3 : Int32} (q0 : xm_V X P d 216 [.ref l0] h (some (.int r0)) h0) (q1 : X.1[l0]? = some (.inr 10)) (q2 : ¬ (r0 = (0 : Int32))) (q3 : xm_V X P d 191 [.long l1.toInt64, .long (0 : Int64), .long (12 : Int64)] h0 (some (.int r1)) h1) (q4 : ¬ (r1 = (0 : Int32))) (q5 : xm_V X P d 218 [.ref l0] h1 (some (.int r2)) h2) (q6 : xm_V X P d 228 [.int r2] h2 (some (.int r3)) h3) (q7 : ¬ (r3 = (0 : Int32))) : xm_E X P d co_X11_ways 0 [some (.ref l0), some (.int l1), none] [] h (some (.long (0 : Int64))) h3 := by
  refine xm_E_s r_X11_ways_0 rfl rfl ?_
  refine xm_E_cv [.ref l0] [] r_X11_ways_1 rfl rfl (Nat.le_of_ble_eq_true rfl) (xm_rc q1 (by decide)) rfl q0 ?_
  refine xm_E_s r_X11_ways_2 rfl rfl ?_
  refine xm_E_f q2 ?_
  refine xm_E_s r_X11_ways_3 rfl rfl ?_
  refine xm_E_s r_X11_ways_4 rfl rfl ?_
  refine xm_E_s r_X11_ways_5 rfl rfl ?_
  refine xm_E_s r_X11_ways_6 rfl rfl ?_
  refine xm_E_cs [.long l1.toInt64, .long (0 : Int64), .long (12 : Int64)] [] r_X11_ways_7 rfl rfl rfl (Nat.le_of_ble_eq_true rfl) rfl q3 ?_
  refine xm_E_s r_X11_ways_8 rfl rfl ?_
  refine xm_E_f q4 ?_
  refine xm_E_s r_X11_ways_11 rfl rfl ?_
  refine xm_E_cv [.ref l0] [] r_X11_ways_12 rfl rfl (Nat.le_of_ble_eq_true rfl) (xm_rc q1 (by decide)) rfl q5 ?_
  refine xm_E_s (ls1 := [some (.ref l0), some (.int l1), some (.int r2)]) r_X11_ways_13 rfl rfl ?_
  refine xm_E_s r_X11_ways_14 rfl rfl ?_
  refine xm_E_cs [.int r2] [] r_X11_ways_15 rfl rfl rfl (Nat.le_of_ble_eq_true rfl) rfl q6 ?_
  refine xm_E_s r_X11_ways_16 rfl rfl ?_
  refine xm_E_f q7 ?_
  refine xm_E_s r_X11_ways_17 rfl rfl ?_
  exact xm_E_lret r_X11_ways_18 rfl
theorem r_X11_fillWays_0 : co_X11_fillWays[0]? = some ((0, .aload_n 0, 0, 0, 0, 0, 0, 0, []) : xm_I) := rfl
theorem r_X11_fillWays_1 : co_X11_fillWays[1]? = some ((1, .invokevirtual 305, 1655, 219, 1, 10, 0, 0, []) : xm_I) := rfl
theorem r_X11_fillWays_2 : co_X11_fillWays[2]? = some ((4, .aload_n 0, 0, 0, 0, 0, 0, 0, []) : xm_I) := rfl
theorem r_X11_fillWays_3 : co_X11_fillWays[3]? = some ((5, .iconst (-1), 0, 0, 0, 0, (-1), 0, []) : xm_I) := rfl
theorem r_X11_fillWays_4 : co_X11_fillWays[4]? = some ((6, .putfield 380, 1404, 10, 24, 0, 0, 0, []) : xm_I) := rfl
theorem r_X11_fillWays_5 : co_X11_fillWays[5]? = some ((9, .aload_n 0, 0, 0, 0, 0, 0, 0, []) : xm_I) := rfl
theorem r_X11_fillWays_6 : co_X11_fillWays[6]? = some ((10, .iconst 0, 0, 0, 0, 0, 0, 0, []) : xm_I) := rfl
theorem r_X11_fillWays_7 : co_X11_fillWays[7]? = some ((11, .putfield 383, 1405, 10, 25, 3, 0, 0, []) : xm_I) := rfl
theorem r_X11_fillWays_8 : co_X11_fillWays[8]? = some ((14, .aload_n 0, 0, 0, 0, 0, 0, 0, []) : xm_I) := rfl
theorem r_X11_fillWays_9 : co_X11_fillWays[9]? = some ((15, .aload_n 0, 0, 0, 0, 0, 0, 0, []) : xm_I) := rfl
theorem r_X11_fillWays_10 : co_X11_fillWays[10]? = some ((16, .invokevirtual 308, 1659, 220, 1, 10, 0, 0, []) : xm_I) := rfl
theorem r_X11_fillWays_11 : co_X11_fillWays[11]? = some ((19, .invokevirtual 405, 1814, 261, 2, 10, 0, 0, []) : xm_I) := rfl
theorem r_X11_fillWays_12 : co_X11_fillWays[12]? = some ((22, .iconst 0, 0, 0, 0, 0, 0, 0, []) : xm_I) := rfl
theorem r_X11_fillWays_13 : co_X11_fillWays[13]? = some ((23, .istore_n 3, 0, 0, 0, 0, 0, 0, []) : xm_I) := rfl
theorem r_X11_fillWays_14 : co_X11_fillWays[14]? = some ((24, .iload_n 3, 0, 0, 0, 0, 0, 0, []) : xm_I) := rfl
theorem r_X11_fillWays_15 : co_X11_fillWays[15]? = some ((25, .aload_n 0, 0, 0, 0, 0, 0, 0, []) : xm_I) := rfl
theorem r_X11_fillWays_16 : co_X11_fillWays[16]? = some ((26, .getfield 387, 1403, 10, 23, 0, 0, 0, []) : xm_I) := rfl
theorem r_X11_fillWays_17 : co_X11_fillWays[17]? = some ((29, .if_icmp .ge 64, 0, 0, 54, 0, 0, 0, []) : xm_I) := rfl
theorem r_X11_fillWays_18 : co_X11_fillWays[18]? = some ((32, .aload_n 0, 0, 0, 0, 0, 0, 0, []) : xm_I) := rfl
theorem r_X11_fillWays_19 : co_X11_fillWays[19]? = some ((33, .getfield 47, 1407, 10, 27, 2, 0, 0, []) : xm_I) := rfl
theorem r_X11_fillWays_20 : co_X11_fillWays[20]? = some ((36, .aload_n 0, 0, 0, 0, 0, 0, 0, []) : xm_I) := rfl
theorem r_X11_fillWays_21 : co_X11_fillWays[21]? = some ((37, .getfield 41, 1402, 10, 22, 2, 0, 0, []) : xm_I) := rfl
theorem r_X11_fillWays_22 : co_X11_fillWays[22]? = some ((40, .iload_n 3, 0, 0, 0, 0, 0, 0, []) : xm_I) := rfl
theorem r_X11_fillWays_23 : co_X11_fillWays[23]? = some ((41, .iaload, 0, 0, 0, 0, 0, 0, []) : xm_I) := rfl
theorem r_X11_fillWays_24 : co_X11_fillWays[24]? = some ((42, .aload_n 0, 0, 0, 0, 0, 0, 0, []) : xm_I) := rfl
theorem r_X11_fillWays_25 : co_X11_fillWays[25]? = some ((43, .getfield 41, 1402, 10, 22, 2, 0, 0, []) : xm_I) := rfl
theorem r_X11_fillWays_26 : co_X11_fillWays[26]? = some ((46, .iload_n 3, 0, 0, 0, 0, 0, 0, []) : xm_I) := rfl
theorem r_X11_fillWays_27 : co_X11_fillWays[27]? = some ((47, .iaload, 0, 0, 0, 0, 0, 0, []) : xm_I) := rfl
theorem r_X11_fillWays_28 : co_X11_fillWays[28]? = some ((48, .iload_n 2, 0, 0, 0, 0, 0, 0, []) : xm_I) := rfl
theorem r_X11_fillWays_29 : co_X11_fillWays[29]? = some ((49, .if_icmp .ne 7, 0, 0, 32, 0, 0, 0, []) : xm_I) := rfl
theorem r_X11_fillWays_30 : co_X11_fillWays[30]? = some ((52, .lconst 1, 0, 0, 0, 0, 0, 1, []) : xm_I) := rfl
theorem r_X11_fillWays_31 : co_X11_fillWays[31]? = some ((53, .goto 4, 0, 0, 33, 0, 0, 0, []) : xm_I) := rfl
theorem r_X11_fillWays_32 : co_X11_fillWays[32]? = some ((56, .lconst 0, 0, 0, 0, 0, 0, 0, []) : xm_I) := rfl
theorem r_X11_fillWays_33 : co_X11_fillWays[33]? = some ((57, .lastore, 0, 0, 0, 0, 0, 0, []) : xm_I) := rfl
theorem r_X11_fillWays_34 : co_X11_fillWays[34]? = some ((58, .aload_n 0, 0, 0, 0, 0, 0, 0, []) : xm_I) := rfl
theorem r_X11_fillWays_35 : co_X11_fillWays[35]? = some ((59, .getfield 55, 1409, 10, 29, 2, 0, 0, []) : xm_I) := rfl
theorem r_X11_fillWays_36 : co_X11_fillWays[36]? = some ((62, .bipush 13, 0, 0, 0, 0, 13, 0, []) : xm_I) := rfl
theorem r_X11_fillWays_37 : co_X11_fillWays[37]? = some ((64, .aload_n 0, 0, 0, 0, 0, 0, 0, []) : xm_I) := rfl
theorem r_X11_fillWays_38 : co_X11_fillWays[38]? = some ((65, .getfield 41, 1402, 10, 22, 2, 0, 0, []) : xm_I) := rfl
theorem r_X11_fillWays_39 : co_X11_fillWays[39]? = some ((68, .iload_n 3, 0, 0, 0, 0, 0, 0, []) : xm_I) := rfl
theorem r_X11_fillWays_40 : co_X11_fillWays[40]? = some ((69, .iaload, 0, 0, 0, 0, 0, 0, []) : xm_I) := rfl
theorem r_X11_fillWays_41 : co_X11_fillWays[41]? = some ((70, .imul, 0, 0, 0, 0, 0, 0, []) : xm_I) := rfl
theorem r_X11_fillWays_42 : co_X11_fillWays[42]? = some ((71, .aload_n 0, 0, 0, 0, 0, 0, 0, []) : xm_I) := rfl
theorem r_X11_fillWays_43 : co_X11_fillWays[43]? = some ((72, .getfield 41, 1402, 10, 22, 2, 0, 0, []) : xm_I) := rfl
theorem r_X11_fillWays_44 : co_X11_fillWays[44]? = some ((75, .iload_n 3, 0, 0, 0, 0, 0, 0, []) : xm_I) := rfl
theorem r_X11_fillWays_45 : co_X11_fillWays[45]? = some ((76, .iaload, 0, 0, 0, 0, 0, 0, []) : xm_I) := rfl
theorem r_X11_fillWays_46 : co_X11_fillWays[46]? = some ((77, .iload_n 2, 0, 0, 0, 0, 0, 0, []) : xm_I) := rfl
theorem r_X11_fillWays_47 : co_X11_fillWays[47]? = some ((78, .if_icmp .ne 7, 0, 0, 50, 0, 0, 0, []) : xm_I) := rfl
theorem r_X11_fillWays_48 : co_X11_fillWays[48]? = some ((81, .iconst 1, 0, 0, 0, 0, 1, 0, []) : xm_I) := rfl
theorem r_X11_fillWays_49 : co_X11_fillWays[49]? = some ((82, .goto 4, 0, 0, 51, 0, 0, 0, []) : xm_I) := rfl
theorem r_X11_fillWays_50 : co_X11_fillWays[50]? = some ((85, .iconst 0, 0, 0, 0, 0, 0, 0, []) : xm_I) := rfl
theorem r_X11_fillWays_51 : co_X11_fillWays[51]? = some ((86, .bastore, 0, 0, 0, 0, 0, 0, []) : xm_I) := rfl
theorem r_X11_fillWays_52 : co_X11_fillWays[52]? = some ((87, .iinc 3 1, 0, 0, 0, 0, 1, 0, []) : xm_I) := rfl
theorem r_X11_fillWays_53 : co_X11_fillWays[53]? = some ((90, .goto (-66), 0, 0, 14, 0, 0, 0, []) : xm_I) := rfl
theorem r_X11_fillWays_54 : co_X11_fillWays[54]? = some ((93, .iconst 1, 0, 0, 0, 0, 1, 0, []) : xm_I) := rfl
theorem r_X11_fillWays_55 : co_X11_fillWays[55]? = some ((94, .istore_n 3, 0, 0, 0, 0, 0, 0, []) : xm_I) := rfl
theorem r_X11_fillWays_56 : co_X11_fillWays[56]? = some ((95, .iload_n 3, 0, 0, 0, 0, 0, 0, []) : xm_I) := rfl
theorem r_X11_fillWays_57 : co_X11_fillWays[57]? = some ((96, .iload_n 1, 0, 0, 0, 0, 0, 0, []) : xm_I) := rfl
theorem r_X11_fillWays_58 : co_X11_fillWays[58]? = some ((97, .if_icmp .gt 170, 0, 0, 148, 0, 0, 0, []) : xm_I) := rfl
theorem r_X11_fillWays_59 : co_X11_fillWays[59]? = some ((100, .iconst 0, 0, 0, 0, 0, 0, 0, []) : xm_I) := rfl
theorem r_X11_fillWays_60 : co_X11_fillWays[60]? = some ((101, .istore 4, 0, 0, 0, 0, 0, 0, []) : xm_I) := rfl
theorem r_X11_fillWays_61 : co_X11_fillWays[61]? = some ((103, .iload 4, 0, 0, 0, 0, 0, 0, []) : xm_I) := rfl
theorem r_X11_fillWays_62 : co_X11_fillWays[62]? = some ((105, .aload_n 0, 0, 0, 0, 0, 0, 0, []) : xm_I) := rfl
theorem r_X11_fillWays_63 : co_X11_fillWays[63]? = some ((106, .getfield 387, 1403, 10, 23, 0, 0, 0, []) : xm_I) := rfl
theorem r_X11_fillWays_64 : co_X11_fillWays[64]? = some ((109, .if_icmp .ge 110, 0, 0, 124, 0, 0, 0, []) : xm_I) := rfl
theorem r_X11_fillWays_65 : co_X11_fillWays[65]? = some ((112, .aload_n 0, 0, 0, 0, 0, 0, 0, []) : xm_I) := rfl
theorem r_X11_fillWays_66 : co_X11_fillWays[66]? = some ((113, .getfield 41, 1402, 10, 22, 2, 0, 0, []) : xm_I) := rfl
theorem r_X11_fillWays_67 : co_X11_fillWays[67]? = some ((116, .iload 4, 0, 0, 0, 0, 0, 0, []) : xm_I) := rfl
theorem r_X11_fillWays_68 : co_X11_fillWays[68]? = some ((118, .iaload, 0, 0, 0, 0, 0, 0, []) : xm_I) := rfl
theorem r_X11_fillWays_69 : co_X11_fillWays[69]? = some ((119, .istore 5, 0, 0, 0, 0, 0, 0, []) : xm_I) := rfl
theorem r_X11_fillWays_70 : co_X11_fillWays[70]? = some ((121, .aload_n 0, 0, 0, 0, 0, 0, 0, []) : xm_I) := rfl
theorem r_X11_fillWays_71 : co_X11_fillWays[71]? = some ((122, .getfield 51, 1408, 10, 28, 2, 0, 0, []) : xm_I) := rfl
theorem r_X11_fillWays_72 : co_X11_fillWays[72]? = some ((125, .iload 5, 0, 0, 0, 0, 0, 0, []) : xm_I) := rfl
theorem r_X11_fillWays_73 : co_X11_fillWays[73]? = some ((127, .lconst 0, 0, 0, 0, 0, 0, 0, []) : xm_I) := rfl
theorem r_X11_fillWays_74 : co_X11_fillWays[74]? = some ((128, .lastore, 0, 0, 0, 0, 0, 0, []) : xm_I) := rfl
theorem r_X11_fillWays_75 : co_X11_fillWays[75]? = some ((129, .iconst 0, 0, 0, 0, 0, 0, 0, []) : xm_I) := rfl
theorem r_X11_fillWays_76 : co_X11_fillWays[76]? = some ((130, .istore 6, 0, 0, 0, 0, 0, 0, []) : xm_I) := rfl
theorem r_X11_fillWays_77 : co_X11_fillWays[77]? = some ((132, .iload 6, 0, 0, 0, 0, 0, 0, []) : xm_I) := rfl
theorem r_X11_fillWays_78 : co_X11_fillWays[78]? = some ((134, .bipush 10, 0, 0, 0, 0, 10, 0, []) : xm_I) := rfl
theorem r_X11_fillWays_79 : co_X11_fillWays[79]? = some ((136, .if_icmp .ge 48, 0, 0, 104, 0, 0, 0, []) : xm_I) := rfl
theorem r_X11_fillWays_80 : co_X11_fillWays[80]? = some ((139, .aload_n 0, 0, 0, 0, 0, 0, 0, []) : xm_I) := rfl
theorem r_X11_fillWays_81 : co_X11_fillWays[81]? = some ((140, .getfield 51, 1408, 10, 28, 2, 0, 0, []) : xm_I) := rfl
theorem r_X11_fillWays_82 : co_X11_fillWays[82]? = some ((143, .iload 5, 0, 0, 0, 0, 0, 0, []) : xm_I) := rfl
theorem r_X11_fillWays_83 : co_X11_fillWays[83]? = some ((145, .dup2, 0, 0, 0, 0, 0, 0, []) : xm_I) := rfl
theorem r_X11_fillWays_84 : co_X11_fillWays[84]? = some ((146, .laload, 0, 0, 0, 0, 0, 0, []) : xm_I) := rfl
theorem r_X11_fillWays_85 : co_X11_fillWays[85]? = some ((147, .aload_n 0, 0, 0, 0, 0, 0, 0, []) : xm_I) := rfl
theorem r_X11_fillWays_86 : co_X11_fillWays[86]? = some ((148, .iload 5, 0, 0, 0, 0, 0, 0, []) : xm_I) := rfl
theorem r_X11_fillWays_87 : co_X11_fillWays[87]? = some ((150, .iload 6, 0, 0, 0, 0, 0, 0, []) : xm_I) := rfl
theorem r_X11_fillWays_88 : co_X11_fillWays[88]? = some ((152, .invokevirtual 297, 1670, 223, 3, 10, 0, 0, []) : xm_I) := rfl
theorem r_X11_fillWays_89 : co_X11_fillWays[89]? = some ((155, .iconst (-1), 0, 0, 0, 0, (-1), 0, []) : xm_I) := rfl
theorem r_X11_fillWays_90 : co_X11_fillWays[90]? = some ((156, .if_icmp .ne 7, 0, 0, 93, 0, 0, 0, []) : xm_I) := rfl
theorem r_X11_fillWays_91 : co_X11_fillWays[91]? = some ((159, .lconst 0, 0, 0, 0, 0, 0, 0, []) : xm_I) := rfl
theorem r_X11_fillWays_92 : co_X11_fillWays[92]? = some ((160, .goto 16, 0, 0, 100, 0, 0, 0, []) : xm_I) := rfl
theorem r_X11_fillWays_93 : co_X11_fillWays[93]? = some ((163, .aload_n 0, 0, 0, 0, 0, 0, 0, []) : xm_I) := rfl
theorem r_X11_fillWays_94 : co_X11_fillWays[94]? = some ((164, .getfield 47, 1407, 10, 27, 2, 0, 0, []) : xm_I) := rfl
theorem r_X11_fillWays_95 : co_X11_fillWays[95]? = some ((167, .aload_n 0, 0, 0, 0, 0, 0, 0, []) : xm_I) := rfl
theorem r_X11_fillWays_96 : co_X11_fillWays[96]? = some ((168, .iload 5, 0, 0, 0, 0, 0, 0, []) : xm_I) := rfl
theorem r_X11_fillWays_97 : co_X11_fillWays[97]? = some ((170, .iload 6, 0, 0, 0, 0, 0, 0, []) : xm_I) := rfl
theorem r_X11_fillWays_98 : co_X11_fillWays[98]? = some ((172, .invokevirtual 297, 1670, 223, 3, 10, 0, 0, []) : xm_I) := rfl
theorem r_X11_fillWays_99 : co_X11_fillWays[99]? = some ((175, .laload, 0, 0, 0, 0, 0, 0, []) : xm_I) := rfl
theorem r_X11_fillWays_100 : co_X11_fillWays[100]? = some ((176, .ladd, 0, 0, 0, 0, 0, 0, []) : xm_I) := rfl
theorem r_X11_fillWays_101 : co_X11_fillWays[101]? = some ((177, .lastore, 0, 0, 0, 0, 0, 0, []) : xm_I) := rfl
theorem r_X11_fillWays_102 : co_X11_fillWays[102]? = some ((178, .iinc 6 1, 0, 0, 0, 0, 1, 0, []) : xm_I) := rfl
theorem r_X11_fillWays_103 : co_X11_fillWays[103]? = some ((181, .goto (-49), 0, 0, 77, 0, 0, 0, []) : xm_I) := rfl
theorem r_X11_fillWays_104 : co_X11_fillWays[104]? = some ((184, .aload_n 0, 0, 0, 0, 0, 0, 0, []) : xm_I) := rfl
theorem r_X11_fillWays_105 : co_X11_fillWays[105]? = some ((185, .getfield 55, 1409, 10, 29, 2, 0, 0, []) : xm_I) := rfl
theorem r_X11_fillWays_106 : co_X11_fillWays[106]? = some ((188, .bipush 13, 0, 0, 0, 0, 13, 0, []) : xm_I) := rfl
theorem r_X11_fillWays_107 : co_X11_fillWays[107]? = some ((190, .iload 5, 0, 0, 0, 0, 0, 0, []) : xm_I) := rfl
theorem r_X11_fillWays_108 : co_X11_fillWays[108]? = some ((192, .imul, 0, 0, 0, 0, 0, 0, []) : xm_I) := rfl
theorem r_X11_fillWays_109 : co_X11_fillWays[109]? = some ((193, .iload_n 3, 0, 0, 0, 0, 0, 0, []) : xm_I) := rfl
theorem r_X11_fillWays_110 : co_X11_fillWays[110]? = some ((194, .iadd, 0, 0, 0, 0, 0, 0, []) : xm_I) := rfl
theorem r_X11_fillWays_111 : co_X11_fillWays[111]? = some ((195, .aload_n 0, 0, 0, 0, 0, 0, 0, []) : xm_I) := rfl
theorem r_X11_fillWays_112 : co_X11_fillWays[112]? = some ((196, .getfield 51, 1408, 10, 28, 2, 0, 0, []) : xm_I) := rfl
theorem r_X11_fillWays_113 : co_X11_fillWays[113]? = some ((199, .iload 5, 0, 0, 0, 0, 0, 0, []) : xm_I) := rfl
theorem r_X11_fillWays_114 : co_X11_fillWays[114]? = some ((201, .laload, 0, 0, 0, 0, 0, 0, []) : xm_I) := rfl
theorem r_X11_fillWays_115 : co_X11_fillWays[115]? = some ((202, .lconst 0, 0, 0, 0, 0, 0, 0, []) : xm_I) := rfl
theorem r_X11_fillWays_116 : co_X11_fillWays[116]? = some ((203, .lcmp, 0, 0, 0, 0, 0, 0, []) : xm_I) := rfl
theorem r_X11_fillWays_117 : co_X11_fillWays[117]? = some ((204, .ifCond .le 7, 0, 0, 120, 0, 0, 0, []) : xm_I) := rfl
theorem r_X11_fillWays_118 : co_X11_fillWays[118]? = some ((207, .iconst 1, 0, 0, 0, 0, 1, 0, []) : xm_I) := rfl
theorem r_X11_fillWays_119 : co_X11_fillWays[119]? = some ((208, .goto 4, 0, 0, 121, 0, 0, 0, []) : xm_I) := rfl
theorem r_X11_fillWays_120 : co_X11_fillWays[120]? = some ((211, .iconst 0, 0, 0, 0, 0, 0, 0, []) : xm_I) := rfl
theorem r_X11_fillWays_121 : co_X11_fillWays[121]? = some ((212, .bastore, 0, 0, 0, 0, 0, 0, []) : xm_I) := rfl
theorem r_X11_fillWays_122 : co_X11_fillWays[122]? = some ((213, .iinc 4 1, 0, 0, 0, 0, 1, 0, []) : xm_I) := rfl
theorem r_X11_fillWays_123 : co_X11_fillWays[123]? = some ((216, .goto (-113), 0, 0, 61, 0, 0, 0, []) : xm_I) := rfl
theorem r_X11_fillWays_124 : co_X11_fillWays[124]? = some ((219, .iconst 0, 0, 0, 0, 0, 0, 0, []) : xm_I) := rfl
theorem r_X11_fillWays_125 : co_X11_fillWays[125]? = some ((220, .istore 4, 0, 0, 0, 0, 0, 0, []) : xm_I) := rfl
theorem r_X11_fillWays_126 : co_X11_fillWays[126]? = some ((222, .iload 4, 0, 0, 0, 0, 0, 0, []) : xm_I) := rfl
theorem r_X11_fillWays_127 : co_X11_fillWays[127]? = some ((224, .aload_n 0, 0, 0, 0, 0, 0, 0, []) : xm_I) := rfl
theorem r_X11_fillWays_128 : co_X11_fillWays[128]? = some ((225, .getfield 387, 1403, 10, 23, 0, 0, 0, []) : xm_I) := rfl
theorem r_X11_fillWays_129 : co_X11_fillWays[129]? = some ((228, .if_icmp .ge 33, 0, 0, 146, 0, 0, 0, []) : xm_I) := rfl
theorem r_X11_fillWays_130 : co_X11_fillWays[130]? = some ((231, .aload_n 0, 0, 0, 0, 0, 0, 0, []) : xm_I) := rfl
theorem r_X11_fillWays_131 : co_X11_fillWays[131]? = some ((232, .getfield 47, 1407, 10, 27, 2, 0, 0, []) : xm_I) := rfl
theorem r_X11_fillWays_132 : co_X11_fillWays[132]? = some ((235, .aload_n 0, 0, 0, 0, 0, 0, 0, []) : xm_I) := rfl
theorem r_X11_fillWays_133 : co_X11_fillWays[133]? = some ((236, .getfield 41, 1402, 10, 22, 2, 0, 0, []) : xm_I) := rfl
theorem r_X11_fillWays_134 : co_X11_fillWays[134]? = some ((239, .iload 4, 0, 0, 0, 0, 0, 0, []) : xm_I) := rfl
theorem r_X11_fillWays_135 : co_X11_fillWays[135]? = some ((241, .iaload, 0, 0, 0, 0, 0, 0, []) : xm_I) := rfl
theorem r_X11_fillWays_136 : co_X11_fillWays[136]? = some ((242, .aload_n 0, 0, 0, 0, 0, 0, 0, []) : xm_I) := rfl
theorem r_X11_fillWays_137 : co_X11_fillWays[137]? = some ((243, .getfield 51, 1408, 10, 28, 2, 0, 0, []) : xm_I) := rfl
theorem r_X11_fillWays_138 : co_X11_fillWays[138]? = some ((246, .aload_n 0, 0, 0, 0, 0, 0, 0, []) : xm_I) := rfl
theorem r_X11_fillWays_139 : co_X11_fillWays[139]? = some ((247, .getfield 41, 1402, 10, 22, 2, 0, 0, []) : xm_I) := rfl
theorem r_X11_fillWays_140 : co_X11_fillWays[140]? = some ((250, .iload 4, 0, 0, 0, 0, 0, 0, []) : xm_I) := rfl
theorem r_X11_fillWays_141 : co_X11_fillWays[141]? = some ((252, .iaload, 0, 0, 0, 0, 0, 0, []) : xm_I) := rfl
theorem r_X11_fillWays_142 : co_X11_fillWays[142]? = some ((253, .laload, 0, 0, 0, 0, 0, 0, []) : xm_I) := rfl
theorem r_X11_fillWays_143 : co_X11_fillWays[143]? = some ((254, .lastore, 0, 0, 0, 0, 0, 0, []) : xm_I) := rfl
theorem r_X11_fillWays_144 : co_X11_fillWays[144]? = some ((255, .iinc 4 1, 0, 0, 0, 0, 1, 0, []) : xm_I) := rfl
theorem r_X11_fillWays_145 : co_X11_fillWays[145]? = some ((258, .goto (-36), 0, 0, 126, 0, 0, 0, []) : xm_I) := rfl
theorem r_X11_fillWays_146 : co_X11_fillWays[146]? = some ((261, .iinc 3 1, 0, 0, 0, 0, 1, 0, []) : xm_I) := rfl
theorem r_X11_fillWays_147 : co_X11_fillWays[147]? = some ((264, .goto (-169), 0, 0, 56, 0, 0, 0, []) : xm_I) := rfl
theorem r_X11_fillWays_148 : co_X11_fillWays[148]? = some ((267, .return_, 0, 0, 0, 0, 0, 0, []) : xm_I) := rfl
theorem p_X11_fillWays_0_0 {X : xm_X} {P : List xm_M} {d : Nat} {h : xm_H} {l0 : Nat} {l1 : Int32} {l2 : Int32} {h0 : xm_H} {h1 : xm_H} {r1 : Int32} {h2 : xm_H} {ro : Option Value} {ho : xm_H} (q0 : xm_V X P d 219 [.ref l0] h none h0) (q1 : X.1[l0]? = some (.inr 10)) (q2 : xm_V X P d 220 [.ref l0] (xm_si (xm_si h0 l0 24 (-1 : Int32)) l0 25 (0 : Int32)) (some (.int r1)) h1) (q3 : xm_V X P d 261 [.ref l0, .int r1] h1 none h2) (K : xm_E X P d co_X11_fillWays 14 [some (.ref l0), some (.int l1), some (.int l2), some (.int (0 : Int32)), none, none, none] [] h2 ro ho) : xm_E X P d co_X11_fillWays 0 [some (.ref l0), some (.int l1), some (.int l2), none, none, none, none] [] h ro ho := by
  refine xm_E_s r_X11_fillWays_0 rfl rfl ?_
  refine xm_E_cv [.ref l0] [] r_X11_fillWays_1 rfl rfl (Nat.le_of_ble_eq_true rfl) (xm_rc q1 (by decide)) rfl q0 ?_
  refine xm_E_s r_X11_fillWays_2 rfl rfl ?_
  refine xm_E_s r_X11_fillWays_3 rfl rfl ?_
  refine xm_E_s r_X11_fillWays_4 rfl (xm_T_pi rfl q1 rfl rfl) ?_
  refine xm_E_s r_X11_fillWays_5 rfl rfl ?_
  refine xm_E_s r_X11_fillWays_6 rfl rfl ?_
  refine xm_E_s r_X11_fillWays_7 rfl (xm_T_pz rfl q1 rfl rfl (by decide)) ?_
  refine xm_E_s r_X11_fillWays_8 rfl rfl ?_
  refine xm_E_s r_X11_fillWays_9 rfl rfl ?_
  refine xm_E_cv [.ref l0] [.ref l0] r_X11_fillWays_10 rfl rfl (Nat.le_of_ble_eq_true rfl) (xm_rc q1 (by decide)) rfl q2 ?_
  refine xm_E_cv [.ref l0, .int r1] [] r_X11_fillWays_11 rfl rfl (Nat.le_of_ble_eq_true rfl) (xm_rc q1 (by decide)) rfl q3 ?_
  refine xm_E_s r_X11_fillWays_12 rfl rfl ?_
  refine xm_E_s (ls1 := [some (.ref l0), some (.int l1), some (.int l2), some (.int (0 : Int32)), none, none, none]) r_X11_fillWays_13 rfl rfl ?_
  exact K
theorem p_X11_fillWays_14_0 {X : xm_X} {P : List xm_M} {d : Nat} {h : xm_H} {l0 : Nat} {l1 : Int32} {l2 : Int32} {l3 : Int32} {ro : Option Value} {ho : xm_H} (q0 : X.1[l0]? = some (.inr 10)) (q1 : h.1 l0 23 ≤ l3) (K : xm_E X P d co_X11_fillWays 56 [some (.ref l0), some (.int l1), some (.int l2), some (.int (1 : Int32)), none, none, none] [] h ro ho) : xm_E X P d co_X11_fillWays 14 [some (.ref l0), some (.int l1), some (.int l2), some (.int l3), none, none, none] [] h ro ho := by
  refine xm_E_s r_X11_fillWays_14 rfl rfl ?_
  refine xm_E_s r_X11_fillWays_15 rfl rfl ?_
  refine xm_E_s r_X11_fillWays_16 rfl (xm_T_gi rfl q0 rfl (Or.inl rfl)) ?_
  refine xm_E_s r_X11_fillWays_17 rfl rfl ?_
  refine xm_E_t q1 ?_
  refine xm_E_s r_X11_fillWays_54 rfl rfl ?_
  refine xm_E_s (ls1 := [some (.ref l0), some (.int l1), some (.int l2), some (.int (1 : Int32)), none, none, none]) r_X11_fillWays_55 rfl rfl ?_
  exact K
theorem p_X11_fillWays_14_1 {X : xm_X} {P : List xm_M} {d : Nat} {h : xm_H} {l0 : Nat} {l1 : Int32} {l2 : Int32} {l3 : Int32} {v0 : Nat} {v1 : Nat} {n2 : Nat} {n3 : Nat} {v4 : Nat} {v5 : Nat} {n6 : Nat} {n7 : Nat} {ro : Option Value} {ho : xm_H} (q0 : X.1[l0]? = some (.inr 10)) (q1 : ¬ (h.1 l0 23 ≤ l3)) (q2 : h.2.2 l0 27 = some v0) (q3 : h.2.2 l0 22 = some v1) (q4 : X.1[v1]? = some (.inl (0, n2))) (q5 : ¬ (l3 < 0 ∨ n2 ≤ l3.toNatClampNeg)) (q6 : h.1 v1 l3.toNatClampNeg = l2) (q7 : X.1[v0]? = some (.inl (3, n3))) (q8 : ¬ (h.1 v1 l3.toNatClampNeg < 0 ∨ n3 ≤ (h.1 v1 l3.toNatClampNeg).toNatClampNeg)) (q9 : (xm_sl h v0 ((h.1 v1 l3.toNatClampNeg).toNatClampNeg) (1 : Int64)).2.2 l0 29 = some v4) (q10 : (xm_sl h v0 ((h.1 v1 l3.toNatClampNeg).toNatClampNeg) (1 : Int64)).2.2 l0 22 = some v5) (q11 : X.1[v5]? = some (.inl (0, n6))) (q12 : ¬ (l3 < 0 ∨ n6 ≤ l3.toNatClampNeg)) (q13 : (xm_sl h v0 ((h.1 v1 l3.toNatClampNeg).toNatClampNeg) (1 : Int64)).1 v5 l3.toNatClampNeg = l2) (q14 : X.1[v4]? = some (.inl (2, n7))) (q15 : ¬ ((13 : Int32) * ((xm_sl h v0 ((h.1 v1 l3.toNatClampNeg).toNatClampNeg) (1 : Int64)).1 v5 l3.toNatClampNeg) < 0 ∨ n7 ≤ ((13 : Int32) * ((xm_sl h v0 ((h.1 v1 l3.toNatClampNeg).toNatClampNeg) (1 : Int64)).1 v5 l3.toNatClampNeg)).toNatClampNeg)) (K : xm_E X P d co_X11_fillWays 14 [some (.ref l0), some (.int l1), some (.int l2), some (.int (l3 + (1 : Int32))), none, none, none] [] (xm_si (xm_sl h v0 ((h.1 v1 l3.toNatClampNeg).toNatClampNeg) (1 : Int64)) v4 (((13 : Int32) * ((xm_sl h v0 ((h.1 v1 l3.toNatClampNeg).toNatClampNeg) (1 : Int64)).1 v5 l3.toNatClampNeg)).toNatClampNeg) (vp_nar .boolean (1 : Int32))) ro ho) : xm_E X P d co_X11_fillWays 14 [some (.ref l0), some (.int l1), some (.int l2), some (.int l3), none, none, none] [] h ro ho := by
  refine xm_E_s r_X11_fillWays_14 rfl rfl ?_
  refine xm_E_s r_X11_fillWays_15 rfl rfl ?_
  refine xm_E_s r_X11_fillWays_16 rfl (xm_T_gi rfl q0 rfl (Or.inl rfl)) ?_
  refine xm_E_s r_X11_fillWays_17 rfl rfl ?_
  refine xm_E_f q1 ?_
  refine xm_E_s r_X11_fillWays_18 rfl rfl ?_
  refine xm_E_s r_X11_fillWays_19 rfl (xm_T_gr rfl q0 rfl rfl q2) ?_
  refine xm_E_s r_X11_fillWays_20 rfl rfl ?_
  refine xm_E_s r_X11_fillWays_21 rfl (xm_T_gr rfl q0 rfl rfl q3) ?_
  refine xm_E_s r_X11_fillWays_22 rfl rfl ?_
  refine xm_E_s r_X11_fillWays_23 rfl (xm_T_iald rfl q4 (by decide) q5) ?_
  refine xm_E_s r_X11_fillWays_24 rfl rfl ?_
  refine xm_E_s r_X11_fillWays_25 rfl (xm_T_gr rfl q0 rfl rfl q3) ?_
  refine xm_E_s r_X11_fillWays_26 rfl rfl ?_
  refine xm_E_s r_X11_fillWays_27 rfl (xm_T_iald rfl q4 (by decide) q5) ?_
  refine xm_E_s r_X11_fillWays_28 rfl rfl ?_
  refine xm_E_s r_X11_fillWays_29 rfl rfl ?_
  refine xm_E_t q6 ?_
  refine xm_E_s r_X11_fillWays_30 rfl rfl ?_
  refine xm_E_s r_X11_fillWays_31 rfl rfl ?_
  refine xm_E_s r_X11_fillWays_33 rfl (xm_T_last rfl q7 q8) ?_
  refine xm_E_s r_X11_fillWays_34 rfl rfl ?_
  refine xm_E_s r_X11_fillWays_35 rfl (xm_T_gr rfl q0 rfl rfl q9) ?_
  refine xm_E_s r_X11_fillWays_36 rfl rfl ?_
  refine xm_E_s r_X11_fillWays_37 rfl rfl ?_
  refine xm_E_s r_X11_fillWays_38 rfl (xm_T_gr rfl q0 rfl rfl q10) ?_
  refine xm_E_s r_X11_fillWays_39 rfl rfl ?_
  refine xm_E_s r_X11_fillWays_40 rfl (xm_T_iald rfl q11 (by decide) q12) ?_
  refine xm_E_s r_X11_fillWays_41 rfl rfl ?_
  refine xm_E_s r_X11_fillWays_42 rfl rfl ?_
  refine xm_E_s r_X11_fillWays_43 rfl (xm_T_gr rfl q0 rfl rfl q10) ?_
  refine xm_E_s r_X11_fillWays_44 rfl rfl ?_
  refine xm_E_s r_X11_fillWays_45 rfl (xm_T_iald rfl q11 (by decide) q12) ?_
  refine xm_E_s r_X11_fillWays_46 rfl rfl ?_
  refine xm_E_s r_X11_fillWays_47 rfl rfl ?_
  refine xm_E_t q13 ?_
  refine xm_E_s r_X11_fillWays_48 rfl rfl ?_
  refine xm_E_s r_X11_fillWays_49 rfl rfl ?_
  refine xm_E_s r_X11_fillWays_51 rfl (xm_T_asz rfl q14 q15) ?_
  refine xm_E_s (ls1 := [some (.ref l0), some (.int l1), some (.int l2), some (.int (l3 + (1 : Int32))), none, none, none]) r_X11_fillWays_52 rfl rfl ?_
  refine xm_E_s r_X11_fillWays_53 rfl rfl ?_
  exact K
theorem p_X11_fillWays_14_2 {X : xm_X} {P : List xm_M} {d : Nat} {h : xm_H} {l0 : Nat} {l1 : Int32} {l2 : Int32} {l3 : Int32} {v0 : Nat} {v1 : Nat} {n2 : Nat} {n3 : Nat} {v4 : Nat} {v5 : Nat} {n6 : Nat} {n7 : Nat} {ro : Option Value} {ho : xm_H} (q0 : X.1[l0]? = some (.inr 10)) (q1 : ¬ (h.1 l0 23 ≤ l3)) (q2 : h.2.2 l0 27 = some v0) (q3 : h.2.2 l0 22 = some v1) (q4 : X.1[v1]? = some (.inl (0, n2))) (q5 : ¬ (l3 < 0 ∨ n2 ≤ l3.toNatClampNeg)) (q6 : h.1 v1 l3.toNatClampNeg = l2) (q7 : X.1[v0]? = some (.inl (3, n3))) (q8 : ¬ (h.1 v1 l3.toNatClampNeg < 0 ∨ n3 ≤ (h.1 v1 l3.toNatClampNeg).toNatClampNeg)) (q9 : (xm_sl h v0 ((h.1 v1 l3.toNatClampNeg).toNatClampNeg) (1 : Int64)).2.2 l0 29 = some v4) (q10 : (xm_sl h v0 ((h.1 v1 l3.toNatClampNeg).toNatClampNeg) (1 : Int64)).2.2 l0 22 = some v5) (q11 : X.1[v5]? = some (.inl (0, n6))) (q12 : ¬ (l3 < 0 ∨ n6 ≤ l3.toNatClampNeg)) (q13 : ¬ ((xm_sl h v0 ((h.1 v1 l3.toNatClampNeg).toNatClampNeg) (1 : Int64)).1 v5 l3.toNatClampNeg = l2)) (q14 : X.1[v4]? = some (.inl (2, n7))) (q15 : ¬ ((13 : Int32) * ((xm_sl h v0 ((h.1 v1 l3.toNatClampNeg).toNatClampNeg) (1 : Int64)).1 v5 l3.toNatClampNeg) < 0 ∨ n7 ≤ ((13 : Int32) * ((xm_sl h v0 ((h.1 v1 l3.toNatClampNeg).toNatClampNeg) (1 : Int64)).1 v5 l3.toNatClampNeg)).toNatClampNeg)) (K : xm_E X P d co_X11_fillWays 14 [some (.ref l0), some (.int l1), some (.int l2), some (.int (l3 + (1 : Int32))), none, none, none] [] (xm_si (xm_sl h v0 ((h.1 v1 l3.toNatClampNeg).toNatClampNeg) (1 : Int64)) v4 (((13 : Int32) * ((xm_sl h v0 ((h.1 v1 l3.toNatClampNeg).toNatClampNeg) (1 : Int64)).1 v5 l3.toNatClampNeg)).toNatClampNeg) (vp_nar .boolean (0 : Int32))) ro ho) : xm_E X P d co_X11_fillWays 14 [some (.ref l0), some (.int l1), some (.int l2), some (.int l3), none, none, none] [] h ro ho := by
  refine xm_E_s r_X11_fillWays_14 rfl rfl ?_
  refine xm_E_s r_X11_fillWays_15 rfl rfl ?_
  refine xm_E_s r_X11_fillWays_16 rfl (xm_T_gi rfl q0 rfl (Or.inl rfl)) ?_
  refine xm_E_s r_X11_fillWays_17 rfl rfl ?_
  refine xm_E_f q1 ?_
  refine xm_E_s r_X11_fillWays_18 rfl rfl ?_
  refine xm_E_s r_X11_fillWays_19 rfl (xm_T_gr rfl q0 rfl rfl q2) ?_
  refine xm_E_s r_X11_fillWays_20 rfl rfl ?_
  refine xm_E_s r_X11_fillWays_21 rfl (xm_T_gr rfl q0 rfl rfl q3) ?_
  refine xm_E_s r_X11_fillWays_22 rfl rfl ?_
  refine xm_E_s r_X11_fillWays_23 rfl (xm_T_iald rfl q4 (by decide) q5) ?_
  refine xm_E_s r_X11_fillWays_24 rfl rfl ?_
  refine xm_E_s r_X11_fillWays_25 rfl (xm_T_gr rfl q0 rfl rfl q3) ?_
  refine xm_E_s r_X11_fillWays_26 rfl rfl ?_
  refine xm_E_s r_X11_fillWays_27 rfl (xm_T_iald rfl q4 (by decide) q5) ?_
  refine xm_E_s r_X11_fillWays_28 rfl rfl ?_
  refine xm_E_s r_X11_fillWays_29 rfl rfl ?_
  refine xm_E_t q6 ?_
  refine xm_E_s r_X11_fillWays_30 rfl rfl ?_
  refine xm_E_s r_X11_fillWays_31 rfl rfl ?_
  refine xm_E_s r_X11_fillWays_33 rfl (xm_T_last rfl q7 q8) ?_
  refine xm_E_s r_X11_fillWays_34 rfl rfl ?_
  refine xm_E_s r_X11_fillWays_35 rfl (xm_T_gr rfl q0 rfl rfl q9) ?_
  refine xm_E_s r_X11_fillWays_36 rfl rfl ?_
  refine xm_E_s r_X11_fillWays_37 rfl rfl ?_
  refine xm_E_s r_X11_fillWays_38 rfl (xm_T_gr rfl q0 rfl rfl q10) ?_
  refine xm_E_s r_X11_fillWays_39 rfl rfl ?_
  refine xm_E_s r_X11_fillWays_40 rfl (xm_T_iald rfl q11 (by decide) q12) ?_
  refine xm_E_s r_X11_fillWays_41 rfl rfl ?_
  refine xm_E_s r_X11_fillWays_42 rfl rfl ?_
  refine xm_E_s r_X11_fillWays_43 rfl (xm_T_gr rfl q0 rfl rfl q10) ?_
  refine xm_E_s r_X11_fillWays_44 rfl rfl ?_
  refine xm_E_s r_X11_fillWays_45 rfl (xm_T_iald rfl q11 (by decide) q12) ?_
  refine xm_E_s r_X11_fillWays_46 rfl rfl ?_
  refine xm_E_s r_X11_fillWays_47 rfl rfl ?_
  refine xm_E_f q13 ?_
  refine xm_E_s r_X11_fillWays_50 rfl rfl ?_
  refine xm_E_s r_X11_fillWays_51 rfl (xm_T_asz rfl q14 q15) ?_
  refine xm_E_s (ls1 := [some (.ref l0), some (.int l1), some (.int l2), some (.int (l3 + (1 : Int32))), none, none, none]) r_X11_fillWays_52 rfl rfl ?_
  refine xm_E_s r_X11_fillWays_53 rfl rfl ?_
  exact K
theorem p_X11_fillWays_14_3 {X : xm_X} {P : List xm_M} {d : Nat} {h : xm_H} {l0 : Nat} {l1 : Int32} {l2 : Int32} {l3 : Int32} {v0 : Nat} {v1 : Nat} {n2 : Nat} {n3 : Nat} {v4 : Nat} {v5 : Nat} {n6 : Nat} {n7 : Nat} {ro : Option Value} {ho : xm_H} (q0 : X.1[l0]? = some (.inr 10)) (q1 : ¬ (h.1 l0 23 ≤ l3)) (q2 : h.2.2 l0 27 = some v0) (q3 : h.2.2 l0 22 = some v1) (q4 : X.1[v1]? = some (.inl (0, n2))) (q5 : ¬ (l3 < 0 ∨ n2 ≤ l3.toNatClampNeg)) (q6 : ¬ (h.1 v1 l3.toNatClampNeg = l2)) (q7 : X.1[v0]? = some (.inl (3, n3))) (q8 : ¬ (h.1 v1 l3.toNatClampNeg < 0 ∨ n3 ≤ (h.1 v1 l3.toNatClampNeg).toNatClampNeg)) (q9 : (xm_sl h v0 ((h.1 v1 l3.toNatClampNeg).toNatClampNeg) (0 : Int64)).2.2 l0 29 = some v4) (q10 : (xm_sl h v0 ((h.1 v1 l3.toNatClampNeg).toNatClampNeg) (0 : Int64)).2.2 l0 22 = some v5) (q11 : X.1[v5]? = some (.inl (0, n6))) (q12 : ¬ (l3 < 0 ∨ n6 ≤ l3.toNatClampNeg)) (q13 : (xm_sl h v0 ((h.1 v1 l3.toNatClampNeg).toNatClampNeg) (0 : Int64)).1 v5 l3.toNatClampNeg = l2) (q14 : X.1[v4]? = some (.inl (2, n7))) (q15 : ¬ ((13 : Int32) * ((xm_sl h v0 ((h.1 v1 l3.toNatClampNeg).toNatClampNeg) (0 : Int64)).1 v5 l3.toNatClampNeg) < 0 ∨ n7 ≤ ((13 : Int32) * ((xm_sl h v0 ((h.1 v1 l3.toNatClampNeg).toNatClampNeg) (0 : Int64)).1 v5 l3.toNatClampNeg)).toNatClampNeg)) (K : xm_E X P d co_X11_fillWays 14 [some (.ref l0), some (.int l1), some (.int l2), some (.int (l3 + (1 : Int32))), none, none, none] [] (xm_si (xm_sl h v0 ((h.1 v1 l3.toNatClampNeg).toNatClampNeg) (0 : Int64)) v4 (((13 : Int32) * ((xm_sl h v0 ((h.1 v1 l3.toNatClampNeg).toNatClampNeg) (0 : Int64)).1 v5 l3.toNatClampNeg)).toNatClampNeg) (vp_nar .boolean (1 : Int32))) ro ho) : xm_E X P d co_X11_fillWays 14 [some (.ref l0), some (.int l1), some (.int l2), some (.int l3), none, none, none] [] h ro ho := by
  refine xm_E_s r_X11_fillWays_14 rfl rfl ?_
  refine xm_E_s r_X11_fillWays_15 rfl rfl ?_
  refine xm_E_s r_X11_fillWays_16 rfl (xm_T_gi rfl q0 rfl (Or.inl rfl)) ?_
  refine xm_E_s r_X11_fillWays_17 rfl rfl ?_
  refine xm_E_f q1 ?_
  refine xm_E_s r_X11_fillWays_18 rfl rfl ?_
  refine xm_E_s r_X11_fillWays_19 rfl (xm_T_gr rfl q0 rfl rfl q2) ?_
  refine xm_E_s r_X11_fillWays_20 rfl rfl ?_
  refine xm_E_s r_X11_fillWays_21 rfl (xm_T_gr rfl q0 rfl rfl q3) ?_
  refine xm_E_s r_X11_fillWays_22 rfl rfl ?_
  refine xm_E_s r_X11_fillWays_23 rfl (xm_T_iald rfl q4 (by decide) q5) ?_
  refine xm_E_s r_X11_fillWays_24 rfl rfl ?_
  refine xm_E_s r_X11_fillWays_25 rfl (xm_T_gr rfl q0 rfl rfl q3) ?_
  refine xm_E_s r_X11_fillWays_26 rfl rfl ?_
  refine xm_E_s r_X11_fillWays_27 rfl (xm_T_iald rfl q4 (by decide) q5) ?_
  refine xm_E_s r_X11_fillWays_28 rfl rfl ?_
  refine xm_E_s r_X11_fillWays_29 rfl rfl ?_
  refine xm_E_f q6 ?_
  refine xm_E_s r_X11_fillWays_32 rfl rfl ?_
  refine xm_E_s r_X11_fillWays_33 rfl (xm_T_last rfl q7 q8) ?_
  refine xm_E_s r_X11_fillWays_34 rfl rfl ?_
  refine xm_E_s r_X11_fillWays_35 rfl (xm_T_gr rfl q0 rfl rfl q9) ?_
  refine xm_E_s r_X11_fillWays_36 rfl rfl ?_
  refine xm_E_s r_X11_fillWays_37 rfl rfl ?_
  refine xm_E_s r_X11_fillWays_38 rfl (xm_T_gr rfl q0 rfl rfl q10) ?_
  refine xm_E_s r_X11_fillWays_39 rfl rfl ?_
  refine xm_E_s r_X11_fillWays_40 rfl (xm_T_iald rfl q11 (by decide) q12) ?_
  refine xm_E_s r_X11_fillWays_41 rfl rfl ?_
  refine xm_E_s r_X11_fillWays_42 rfl rfl ?_
  refine xm_E_s r_X11_fillWays_43 rfl (xm_T_gr rfl q0 rfl rfl q10) ?_
  refine xm_E_s r_X11_fillWays_44 rfl rfl ?_
  refine xm_E_s r_X11_fillWays_45 rfl (xm_T_iald rfl q11 (by decide) q12) ?_
  refine xm_E_s r_X11_fillWays_46 rfl rfl ?_
  refine xm_E_s r_X11_fillWays_47 rfl rfl ?_
  refine xm_E_t q13 ?_
  refine xm_E_s r_X11_fillWays_48 rfl rfl ?_
  refine xm_E_s r_X11_fillWays_49 rfl rfl ?_
  refine xm_E_s r_X11_fillWays_51 rfl (xm_T_asz rfl q14 q15) ?_
  refine xm_E_s (ls1 := [some (.ref l0), some (.int l1), some (.int l2), some (.int (l3 + (1 : Int32))), none, none, none]) r_X11_fillWays_52 rfl rfl ?_
  refine xm_E_s r_X11_fillWays_53 rfl rfl ?_
  exact K
theorem p_X11_fillWays_14_4 {X : xm_X} {P : List xm_M} {d : Nat} {h : xm_H} {l0 : Nat} {l1 : Int32} {l2 : Int32} {l3 : Int32} {v0 : Nat} {v1 : Nat} {n2 : Nat} {n3 : Nat} {v4 : Nat} {v5 : Nat} {n6 : Nat} {n7 : Nat} {ro : Option Value} {ho : xm_H} (q0 : X.1[l0]? = some (.inr 10)) (q1 : ¬ (h.1 l0 23 ≤ l3)) (q2 : h.2.2 l0 27 = some v0) (q3 : h.2.2 l0 22 = some v1) (q4 : X.1[v1]? = some (.inl (0, n2))) (q5 : ¬ (l3 < 0 ∨ n2 ≤ l3.toNatClampNeg)) (q6 : ¬ (h.1 v1 l3.toNatClampNeg = l2)) (q7 : X.1[v0]? = some (.inl (3, n3))) (q8 : ¬ (h.1 v1 l3.toNatClampNeg < 0 ∨ n3 ≤ (h.1 v1 l3.toNatClampNeg).toNatClampNeg)) (q9 : (xm_sl h v0 ((h.1 v1 l3.toNatClampNeg).toNatClampNeg) (0 : Int64)).2.2 l0 29 = some v4) (q10 : (xm_sl h v0 ((h.1 v1 l3.toNatClampNeg).toNatClampNeg) (0 : Int64)).2.2 l0 22 = some v5) (q11 : X.1[v5]? = some (.inl (0, n6))) (q12 : ¬ (l3 < 0 ∨ n6 ≤ l3.toNatClampNeg)) (q13 : ¬ ((xm_sl h v0 ((h.1 v1 l3.toNatClampNeg).toNatClampNeg) (0 : Int64)).1 v5 l3.toNatClampNeg = l2)) (q14 : X.1[v4]? = some (.inl (2, n7))) (q15 : ¬ ((13 : Int32) * ((xm_sl h v0 ((h.1 v1 l3.toNatClampNeg).toNatClampNeg) (0 : Int64)).1 v5 l3.toNatClampNeg) < 0 ∨ n7 ≤ ((13 : Int32) * ((xm_sl h v0 ((h.1 v1 l3.toNatClampNeg).toNatClampNeg) (0 : Int64)).1 v5 l3.toNatClampNeg)).toNatClampNeg)) (K : xm_E X P d co_X11_fillWays 14 [some (.ref l0), some (.int l1), some (.int l2), some (.int (l3 + (1 : Int32))), none, none, none] [] (xm_si (xm_sl h v0 ((h.1 v1 l3.toNatClampNeg).toNatClampNeg) (0 : Int64)) v4 (((13 : Int32) * ((xm_sl h v0 ((h.1 v1 l3.toNatClampNeg).toNatClampNeg) (0 : Int64)).1 v5 l3.toNatClampNeg)).toNatClampNeg) (vp_nar .boolean (0 : Int32))) ro ho) : xm_E X P d co_X11_fillWays 14 [some (.ref l0), some (.int l1), some (.int l2), some (.int l3), none, none, none] [] h ro ho := by
  refine xm_E_s r_X11_fillWays_14 rfl rfl ?_
  refine xm_E_s r_X11_fillWays_15 rfl rfl ?_
  refine xm_E_s r_X11_fillWays_16 rfl (xm_T_gi rfl q0 rfl (Or.inl rfl)) ?_
  refine xm_E_s r_X11_fillWays_17 rfl rfl ?_
  refine xm_E_f q1 ?_
  refine xm_E_s r_X11_fillWays_18 rfl rfl ?_
  refine xm_E_s r_X11_fillWays_19 rfl (xm_T_gr rfl q0 rfl rfl q2) ?_
  refine xm_E_s r_X11_fillWays_20 rfl rfl ?_
  refine xm_E_s r_X11_fillWays_21 rfl (xm_T_gr rfl q0 rfl rfl q3) ?_
  refine xm_E_s r_X11_fillWays_22 rfl rfl ?_
  refine xm_E_s r_X11_fillWays_23 rfl (xm_T_iald rfl q4 (by decide) q5) ?_
  refine xm_E_s r_X11_fillWays_24 rfl rfl ?_
  refine xm_E_s r_X11_fillWays_25 rfl (xm_T_gr rfl q0 rfl rfl q3) ?_
  refine xm_E_s r_X11_fillWays_26 rfl rfl ?_
  refine xm_E_s r_X11_fillWays_27 rfl (xm_T_iald rfl q4 (by decide) q5) ?_
  refine xm_E_s r_X11_fillWays_28 rfl rfl ?_
  refine xm_E_s r_X11_fillWays_29 rfl rfl ?_
  refine xm_E_f q6 ?_
  refine xm_E_s r_X11_fillWays_32 rfl rfl ?_
  refine xm_E_s r_X11_fillWays_33 rfl (xm_T_last rfl q7 q8) ?_
  refine xm_E_s r_X11_fillWays_34 rfl rfl ?_
  refine xm_E_s r_X11_fillWays_35 rfl (xm_T_gr rfl q0 rfl rfl q9) ?_
  refine xm_E_s r_X11_fillWays_36 rfl rfl ?_
  refine xm_E_s r_X11_fillWays_37 rfl rfl ?_
  refine xm_E_s r_X11_fillWays_38 rfl (xm_T_gr rfl q0 rfl rfl q10) ?_
  refine xm_E_s r_X11_fillWays_39 rfl rfl ?_
  refine xm_E_s r_X11_fillWays_40 rfl (xm_T_iald rfl q11 (by decide) q12) ?_
  refine xm_E_s r_X11_fillWays_41 rfl rfl ?_
  refine xm_E_s r_X11_fillWays_42 rfl rfl ?_
  refine xm_E_s r_X11_fillWays_43 rfl (xm_T_gr rfl q0 rfl rfl q10) ?_
  refine xm_E_s r_X11_fillWays_44 rfl rfl ?_
  refine xm_E_s r_X11_fillWays_45 rfl (xm_T_iald rfl q11 (by decide) q12) ?_
  refine xm_E_s r_X11_fillWays_46 rfl rfl ?_
  refine xm_E_s r_X11_fillWays_47 rfl rfl ?_
  refine xm_E_f q13 ?_
  refine xm_E_s r_X11_fillWays_50 rfl rfl ?_
  refine xm_E_s r_X11_fillWays_51 rfl (xm_T_asz rfl q14 q15) ?_
  refine xm_E_s (ls1 := [some (.ref l0), some (.int l1), some (.int l2), some (.int (l3 + (1 : Int32))), none, none, none]) r_X11_fillWays_52 rfl rfl ?_
  refine xm_E_s r_X11_fillWays_53 rfl rfl ?_
  exact K
theorem p_X11_fillWays_56_0 {X : xm_X} {P : List xm_M} {d : Nat} {h : xm_H} {l0 : Nat} {l1 : Int32} {l2 : Int32} {l3 : Int32} {l4 : Option Value} {l5 : Option Value} {l6 : Option Value} (q0 : l1 < l3) : xm_E X P d co_X11_fillWays 56 [some (.ref l0), some (.int l1), some (.int l2), some (.int l3), l4, l5, l6] [] h none h := by
  refine xm_E_s r_X11_fillWays_56 rfl rfl ?_
  refine xm_E_s r_X11_fillWays_57 rfl rfl ?_
  refine xm_E_s r_X11_fillWays_58 rfl rfl ?_
  refine xm_E_t q0 ?_
  exact xm_E_ret r_X11_fillWays_148 rfl
theorem p_X11_fillWays_56_1 {X : xm_X} {P : List xm_M} {d : Nat} {h : xm_H} {l0 : Nat} {l1 : Int32} {l2 : Int32} {l3 : Int32} {l4 : Option Value} {l5 : Option Value} {l6 : Option Value} {ro : Option Value} {ho : xm_H} (q0 : ¬ (l1 < l3)) (K : xm_E X P d co_X11_fillWays 61 [some (.ref l0), some (.int l1), some (.int l2), some (.int l3), some (.int (0 : Int32)), l5, l6] [] h ro ho) : xm_E X P d co_X11_fillWays 56 [some (.ref l0), some (.int l1), some (.int l2), some (.int l3), l4, l5, l6] [] h ro ho := by
  refine xm_E_s r_X11_fillWays_56 rfl rfl ?_
  refine xm_E_s r_X11_fillWays_57 rfl rfl ?_
  refine xm_E_s r_X11_fillWays_58 rfl rfl ?_
  refine xm_E_f q0 ?_
  refine xm_E_s r_X11_fillWays_59 rfl rfl ?_
  refine xm_E_s (ls1 := [some (.ref l0), some (.int l1), some (.int l2), some (.int l3), some (.int (0 : Int32)), l5, l6]) r_X11_fillWays_60 rfl rfl ?_
  exact K
theorem p_X11_fillWays_61_0 {X : xm_X} {P : List xm_M} {d : Nat} {h : xm_H} {l0 : Nat} {l1 : Int32} {l2 : Int32} {l3 : Int32} {l4 : Int32} {l5 : Option Value} {l6 : Option Value} {ro : Option Value} {ho : xm_H} (q0 : X.1[l0]? = some (.inr 10)) (q1 : h.1 l0 23 ≤ l4) (K : xm_E X P d co_X11_fillWays 126 [some (.ref l0), some (.int l1), some (.int l2), some (.int l3), some (.int (0 : Int32)), l5, l6] [] h ro ho) : xm_E X P d co_X11_fillWays 61 [some (.ref l0), some (.int l1), some (.int l2), some (.int l3), some (.int l4), l5, l6] [] h ro ho := by
  refine xm_E_s r_X11_fillWays_61 rfl rfl ?_
  refine xm_E_s r_X11_fillWays_62 rfl rfl ?_
  refine xm_E_s r_X11_fillWays_63 rfl (xm_T_gi rfl q0 rfl (Or.inl rfl)) ?_
  refine xm_E_s r_X11_fillWays_64 rfl rfl ?_
  refine xm_E_t q1 ?_
  refine xm_E_s r_X11_fillWays_124 rfl rfl ?_
  refine xm_E_s (ls1 := [some (.ref l0), some (.int l1), some (.int l2), some (.int l3), some (.int (0 : Int32)), l5, l6]) r_X11_fillWays_125 rfl rfl ?_
  exact K
theorem p_X11_fillWays_61_1 {X : xm_X} {P : List xm_M} {d : Nat} {h : xm_H} {l0 : Nat} {l1 : Int32} {l2 : Int32} {l3 : Int32} {l4 : Int32} {l5 : Option Value} {l6 : Option Value} {v0 : Nat} {n1 : Nat} {v2 : Nat} {n3 : Nat} {ro : Option Value} {ho : xm_H} (q0 : X.1[l0]? = some (.inr 10)) (q1 : ¬ (h.1 l0 23 ≤ l4)) (q2 : h.2.2 l0 22 = some v0) (q3 : X.1[v0]? = some (.inl (0, n1))) (q4 : ¬ (l4 < 0 ∨ n1 ≤ l4.toNatClampNeg)) (q5 : h.2.2 l0 28 = some v2) (q6 : X.1[v2]? = some (.inl (3, n3))) (q7 : ¬ (h.1 v0 l4.toNatClampNeg < 0 ∨ n3 ≤ (h.1 v0 l4.toNatClampNeg).toNatClampNeg)) (K : xm_E X P d co_X11_fillWays 77 [some (.ref l0), some (.int l1), some (.int l2), some (.int l3), some (.int l4), some (.int (h.1 v0 l4.toNatClampNeg)), some (.int (0 : Int32))] [] (xm_sl h v2 ((h.1 v0 l4.toNatClampNeg).toNatClampNeg) (0 : Int64)) ro ho) : xm_E X P d co_X11_fillWays 61 [some (.ref l0), some (.int l1), some (.int l2), some (.int l3), some (.int l4), l5, l6] [] h ro ho := by
  refine xm_E_s r_X11_fillWays_61 rfl rfl ?_
  refine xm_E_s r_X11_fillWays_62 rfl rfl ?_
  refine xm_E_s r_X11_fillWays_63 rfl (xm_T_gi rfl q0 rfl (Or.inl rfl)) ?_
  refine xm_E_s r_X11_fillWays_64 rfl rfl ?_
  refine xm_E_f q1 ?_
  refine xm_E_s r_X11_fillWays_65 rfl rfl ?_
  refine xm_E_s r_X11_fillWays_66 rfl (xm_T_gr rfl q0 rfl rfl q2) ?_
  refine xm_E_s r_X11_fillWays_67 rfl rfl ?_
  refine xm_E_s r_X11_fillWays_68 rfl (xm_T_iald rfl q3 (by decide) q4) ?_
  refine xm_E_s (ls1 := [some (.ref l0), some (.int l1), some (.int l2), some (.int l3), some (.int l4), some (.int (h.1 v0 l4.toNatClampNeg)), l6]) r_X11_fillWays_69 rfl rfl ?_
  refine xm_E_s r_X11_fillWays_70 rfl rfl ?_
  refine xm_E_s r_X11_fillWays_71 rfl (xm_T_gr rfl q0 rfl rfl q5) ?_
  refine xm_E_s r_X11_fillWays_72 rfl rfl ?_
  refine xm_E_s r_X11_fillWays_73 rfl rfl ?_
  refine xm_E_s r_X11_fillWays_74 rfl (xm_T_last rfl q6 q7) ?_
  refine xm_E_s r_X11_fillWays_75 rfl rfl ?_
  refine xm_E_s (ls1 := [some (.ref l0), some (.int l1), some (.int l2), some (.int l3), some (.int l4), some (.int (h.1 v0 l4.toNatClampNeg)), some (.int (0 : Int32))]) r_X11_fillWays_76 rfl rfl ?_
  exact K
theorem p_X11_fillWays_77_0 {X : xm_X} {P : List xm_M} {d : Nat} {h : xm_H} {l0 : Nat} {l1 : Int32} {l2 : Int32} {l3 : Int32} {l4 : Int32} {l5 : Int32} {l6 : Int32} {v0 : Nat} {v1 : Nat} {n2 : Nat} {n3 : Nat} {ro : Option Value} {ho : xm_H} (q0 : (10 : Int32) ≤ l6) (q1 : X.1[l0]? = some (.inr 10)) (q2 : h.2.2 l0 29 = some v0) (q3 : h.2.2 l0 28 = some v1) (q4 : X.1[v1]? = some (.inl (3, n2))) (q5 : ¬ (l5 < 0 ∨ n2 ≤ l5.toNatClampNeg)) (q6 : lg_cmp (h.2.1 v1 l5.toNatClampNeg) (0 : Int64) ≤ (0 : Int32)) (q7 : X.1[v0]? = some (.inl (2, n3))) (q8 : ¬ (((13 : Int32) * l5) + l3 < 0 ∨ n3 ≤ (((13 : Int32) * l5) + l3).toNatClampNeg)) (K : xm_E X P d co_X11_fillWays 61 [some (.ref l0), some (.int l1), some (.int l2), some (.int l3), some (.int (l4 + (1 : Int32))), some (.int l5), some (.int l6)] [] (xm_si h v0 ((((13 : Int32) * l5) + l3).toNatClampNeg) (vp_nar .boolean (0 : Int32))) ro ho) : xm_E X P d co_X11_fillWays 77 [some (.ref l0), some (.int l1), some (.int l2), some (.int l3), some (.int l4), some (.int l5), some (.int l6)] [] h ro ho := by
  refine xm_E_s r_X11_fillWays_77 rfl rfl ?_
  refine xm_E_s r_X11_fillWays_78 rfl rfl ?_
  refine xm_E_s r_X11_fillWays_79 rfl rfl ?_
  refine xm_E_t q0 ?_
  refine xm_E_s r_X11_fillWays_104 rfl rfl ?_
  refine xm_E_s r_X11_fillWays_105 rfl (xm_T_gr rfl q1 rfl rfl q2) ?_
  refine xm_E_s r_X11_fillWays_106 rfl rfl ?_
  refine xm_E_s r_X11_fillWays_107 rfl rfl ?_
  refine xm_E_s r_X11_fillWays_108 rfl rfl ?_
  refine xm_E_s r_X11_fillWays_109 rfl rfl ?_
  refine xm_E_s r_X11_fillWays_110 rfl rfl ?_
  refine xm_E_s r_X11_fillWays_111 rfl rfl ?_
  refine xm_E_s r_X11_fillWays_112 rfl (xm_T_gr rfl q1 rfl rfl q3) ?_
  refine xm_E_s r_X11_fillWays_113 rfl rfl ?_
  refine xm_E_s r_X11_fillWays_114 rfl (xm_T_lald rfl q4 q5) ?_
  refine xm_E_s r_X11_fillWays_115 rfl rfl ?_
  refine xm_E_s r_X11_fillWays_116 rfl rfl ?_
  refine xm_E_s r_X11_fillWays_117 rfl rfl ?_
  refine xm_E_t q6 ?_
  refine xm_E_s r_X11_fillWays_120 rfl rfl ?_
  refine xm_E_s r_X11_fillWays_121 rfl (xm_T_asz rfl q7 q8) ?_
  refine xm_E_s (ls1 := [some (.ref l0), some (.int l1), some (.int l2), some (.int l3), some (.int (l4 + (1 : Int32))), some (.int l5), some (.int l6)]) r_X11_fillWays_122 rfl rfl ?_
  refine xm_E_s r_X11_fillWays_123 rfl rfl ?_
  exact K
theorem p_X11_fillWays_77_1 {X : xm_X} {P : List xm_M} {d : Nat} {h : xm_H} {l0 : Nat} {l1 : Int32} {l2 : Int32} {l3 : Int32} {l4 : Int32} {l5 : Int32} {l6 : Int32} {v0 : Nat} {v1 : Nat} {n2 : Nat} {n3 : Nat} {ro : Option Value} {ho : xm_H} (q0 : (10 : Int32) ≤ l6) (q1 : X.1[l0]? = some (.inr 10)) (q2 : h.2.2 l0 29 = some v0) (q3 : h.2.2 l0 28 = some v1) (q4 : X.1[v1]? = some (.inl (3, n2))) (q5 : ¬ (l5 < 0 ∨ n2 ≤ l5.toNatClampNeg)) (q6 : ¬ (lg_cmp (h.2.1 v1 l5.toNatClampNeg) (0 : Int64) ≤ (0 : Int32))) (q7 : X.1[v0]? = some (.inl (2, n3))) (q8 : ¬ (((13 : Int32) * l5) + l3 < 0 ∨ n3 ≤ (((13 : Int32) * l5) + l3).toNatClampNeg)) (K : xm_E X P d co_X11_fillWays 61 [some (.ref l0), some (.int l1), some (.int l2), some (.int l3), some (.int (l4 + (1 : Int32))), some (.int l5), some (.int l6)] [] (xm_si h v0 ((((13 : Int32) * l5) + l3).toNatClampNeg) (vp_nar .boolean (1 : Int32))) ro ho) : xm_E X P d co_X11_fillWays 77 [some (.ref l0), some (.int l1), some (.int l2), some (.int l3), some (.int l4), some (.int l5), some (.int l6)] [] h ro ho := by
  refine xm_E_s r_X11_fillWays_77 rfl rfl ?_
  refine xm_E_s r_X11_fillWays_78 rfl rfl ?_
  refine xm_E_s r_X11_fillWays_79 rfl rfl ?_
  refine xm_E_t q0 ?_
  refine xm_E_s r_X11_fillWays_104 rfl rfl ?_
  refine xm_E_s r_X11_fillWays_105 rfl (xm_T_gr rfl q1 rfl rfl q2) ?_
  refine xm_E_s r_X11_fillWays_106 rfl rfl ?_
  refine xm_E_s r_X11_fillWays_107 rfl rfl ?_
  refine xm_E_s r_X11_fillWays_108 rfl rfl ?_
  refine xm_E_s r_X11_fillWays_109 rfl rfl ?_
  refine xm_E_s r_X11_fillWays_110 rfl rfl ?_
  refine xm_E_s r_X11_fillWays_111 rfl rfl ?_
  refine xm_E_s r_X11_fillWays_112 rfl (xm_T_gr rfl q1 rfl rfl q3) ?_
  refine xm_E_s r_X11_fillWays_113 rfl rfl ?_
  refine xm_E_s r_X11_fillWays_114 rfl (xm_T_lald rfl q4 q5) ?_
  refine xm_E_s r_X11_fillWays_115 rfl rfl ?_
  refine xm_E_s r_X11_fillWays_116 rfl rfl ?_
  refine xm_E_s r_X11_fillWays_117 rfl rfl ?_
  refine xm_E_f q6 ?_
  refine xm_E_s r_X11_fillWays_118 rfl rfl ?_
  refine xm_E_s r_X11_fillWays_119 rfl rfl ?_
  refine xm_E_s r_X11_fillWays_121 rfl (xm_T_asz rfl q7 q8) ?_
  refine xm_E_s (ls1 := [some (.ref l0), some (.int l1), some (.int l2), some (.int l3), some (.int (l4 + (1 : Int32))), some (.int l5), some (.int l6)]) r_X11_fillWays_122 rfl rfl ?_
  refine xm_E_s r_X11_fillWays_123 rfl rfl ?_
  exact K
theorem p_X11_fillWays_77_2 {X : xm_X} {P : List xm_M} {d : Nat} {h : xm_H} {l0 : Nat} {l1 : Int32} {l2 : Int32} {l3 : Int32} {l4 : Int32} {l5 : Int32} {l6 : Int32} {v0 : Nat} {n1 : Nat} {h2 : xm_H} {r2 : Int32} {ro : Option Value} {ho : xm_H} (q0 : ¬ ((10 : Int32) ≤ l6)) (q1 : X.1[l0]? = some (.inr 10)) (q2 : h.2.2 l0 28 = some v0) (q3 : X.1[v0]? = some (.inl (3, n1))) (q4 : ¬ (l5 < 0 ∨ n1 ≤ l5.toNatClampNeg)) (q5 : xm_V X P d 223 [.ref l0, .int l5, .int l6] h (some (.int r2)) h2) (q6 : r2 = (-1 : Int32)) (K : xm_E X P d co_X11_fillWays 77 [some (.ref l0), some (.int l1), some (.int l2), some (.int l3), some (.int l4), some (.int l5), some (.int (l6 + (1 : Int32)))] [] (xm_sl h2 v0 l5.toNatClampNeg ((h.2.1 v0 l5.toNatClampNeg) + (0 : Int64))) ro ho) : xm_E X P d co_X11_fillWays 77 [some (.ref l0), some (.int l1), some (.int l2), some (.int l3), some (.int l4), some (.int l5), some (.int l6)] [] h ro ho := by
  refine xm_E_s r_X11_fillWays_77 rfl rfl ?_
  refine xm_E_s r_X11_fillWays_78 rfl rfl ?_
  refine xm_E_s r_X11_fillWays_79 rfl rfl ?_
  refine xm_E_f q0 ?_
  refine xm_E_s r_X11_fillWays_80 rfl rfl ?_
  refine xm_E_s r_X11_fillWays_81 rfl (xm_T_gr rfl q1 rfl rfl q2) ?_
  refine xm_E_s r_X11_fillWays_82 rfl rfl ?_
  refine xm_E_s r_X11_fillWays_83 rfl rfl ?_
  refine xm_E_s r_X11_fillWays_84 rfl (xm_T_lald rfl q3 q4) ?_
  refine xm_E_s r_X11_fillWays_85 rfl rfl ?_
  refine xm_E_s r_X11_fillWays_86 rfl rfl ?_
  refine xm_E_s r_X11_fillWays_87 rfl rfl ?_
  refine xm_E_cv [.ref l0, .int l5, .int l6] [.long (h.2.1 v0 l5.toNatClampNeg), .int l5, .ref v0] r_X11_fillWays_88 rfl rfl (Nat.le_of_ble_eq_true rfl) (xm_rc q1 (by decide)) rfl q5 ?_
  refine xm_E_s r_X11_fillWays_89 rfl rfl ?_
  refine xm_E_s r_X11_fillWays_90 rfl rfl ?_
  refine xm_E_t q6 ?_
  refine xm_E_s r_X11_fillWays_91 rfl rfl ?_
  refine xm_E_s r_X11_fillWays_92 rfl rfl ?_
  refine xm_E_s r_X11_fillWays_100 rfl rfl ?_
  refine xm_E_s r_X11_fillWays_101 rfl (xm_T_last rfl q3 q4) ?_
  refine xm_E_s (ls1 := [some (.ref l0), some (.int l1), some (.int l2), some (.int l3), some (.int l4), some (.int l5), some (.int (l6 + (1 : Int32)))]) r_X11_fillWays_102 rfl rfl ?_
  refine xm_E_s r_X11_fillWays_103 rfl rfl ?_
  exact K
theorem p_X11_fillWays_77_3 {X : xm_X} {P : List xm_M} {d : Nat} {h : xm_H} {l0 : Nat} {l1 : Int32} {l2 : Int32} {l3 : Int32} {l4 : Int32} {l5 : Int32} {l6 : Int32} {v0 : Nat} {n1 : Nat} {h2 : xm_H} {r2 : Int32} {v3 : Nat} {h4 : xm_H} {r4 : Int32} {n5 : Nat} {ro : Option Value} {ho : xm_H} (q0 : ¬ ((10 : Int32) ≤ l6)) (q1 : X.1[l0]? = some (.inr 10)) (q2 : h.2.2 l0 28 = some v0) (q3 : X.1[v0]? = some (.inl (3, n1))) (q4 : ¬ (l5 < 0 ∨ n1 ≤ l5.toNatClampNeg)) (q5 : xm_V X P d 223 [.ref l0, .int l5, .int l6] h (some (.int r2)) h2) (q6 : ¬ (r2 = (-1 : Int32))) (q7 : h2.2.2 l0 27 = some v3) (q8 : xm_V X P d 223 [.ref l0, .int l5, .int l6] h2 (some (.int r4)) h4) (q9 : X.1[v3]? = some (.inl (3, n5))) (q10 : ¬ (r4 < 0 ∨ n5 ≤ r4.toNatClampNeg)) (K : xm_E X P d co_X11_fillWays 77 [some (.ref l0), some (.int l1), some (.int l2), some (.int l3), some (.int l4), some (.int l5), some (.int (l6 + (1 : Int32)))] [] (xm_sl h4 v0 l5.toNatClampNeg ((h.2.1 v0 l5.toNatClampNeg) + (h4.2.1 v3 r4.toNatClampNeg))) ro ho) : xm_E X P d co_X11_fillWays 77 [some (.ref l0), some (.int l1), some (.int l2), some (.int l3), some (.int l4), some (.int l5), some (.int l6)] [] h ro ho := by
  refine xm_E_s r_X11_fillWays_77 rfl rfl ?_
  refine xm_E_s r_X11_fillWays_78 rfl rfl ?_
  refine xm_E_s r_X11_fillWays_79 rfl rfl ?_
  refine xm_E_f q0 ?_
  refine xm_E_s r_X11_fillWays_80 rfl rfl ?_
  refine xm_E_s r_X11_fillWays_81 rfl (xm_T_gr rfl q1 rfl rfl q2) ?_
  refine xm_E_s r_X11_fillWays_82 rfl rfl ?_
  refine xm_E_s r_X11_fillWays_83 rfl rfl ?_
  refine xm_E_s r_X11_fillWays_84 rfl (xm_T_lald rfl q3 q4) ?_
  refine xm_E_s r_X11_fillWays_85 rfl rfl ?_
  refine xm_E_s r_X11_fillWays_86 rfl rfl ?_
  refine xm_E_s r_X11_fillWays_87 rfl rfl ?_
  refine xm_E_cv [.ref l0, .int l5, .int l6] [.long (h.2.1 v0 l5.toNatClampNeg), .int l5, .ref v0] r_X11_fillWays_88 rfl rfl (Nat.le_of_ble_eq_true rfl) (xm_rc q1 (by decide)) rfl q5 ?_
  refine xm_E_s r_X11_fillWays_89 rfl rfl ?_
  refine xm_E_s r_X11_fillWays_90 rfl rfl ?_
  refine xm_E_f q6 ?_
  refine xm_E_s r_X11_fillWays_93 rfl rfl ?_
  refine xm_E_s r_X11_fillWays_94 rfl (xm_T_gr rfl q1 rfl rfl q7) ?_
  refine xm_E_s r_X11_fillWays_95 rfl rfl ?_
  refine xm_E_s r_X11_fillWays_96 rfl rfl ?_
  refine xm_E_s r_X11_fillWays_97 rfl rfl ?_
  refine xm_E_cv [.ref l0, .int l5, .int l6] [.ref v3, .long (h.2.1 v0 l5.toNatClampNeg), .int l5, .ref v0] r_X11_fillWays_98 rfl rfl (Nat.le_of_ble_eq_true rfl) (xm_rc q1 (by decide)) rfl q8 ?_
  refine xm_E_s r_X11_fillWays_99 rfl (xm_T_lald rfl q9 q10) ?_
  refine xm_E_s r_X11_fillWays_100 rfl rfl ?_
  refine xm_E_s r_X11_fillWays_101 rfl (xm_T_last rfl q3 q4) ?_
  refine xm_E_s (ls1 := [some (.ref l0), some (.int l1), some (.int l2), some (.int l3), some (.int l4), some (.int l5), some (.int (l6 + (1 : Int32)))]) r_X11_fillWays_102 rfl rfl ?_
  refine xm_E_s r_X11_fillWays_103 rfl rfl ?_
  exact K
theorem p_X11_fillWays_126_0 {X : xm_X} {P : List xm_M} {d : Nat} {h : xm_H} {l0 : Nat} {l1 : Int32} {l2 : Int32} {l3 : Int32} {l4 : Int32} {l5 : Option Value} {l6 : Option Value} {ro : Option Value} {ho : xm_H} (q0 : X.1[l0]? = some (.inr 10)) (q1 : h.1 l0 23 ≤ l4) (K : xm_E X P d co_X11_fillWays 56 [some (.ref l0), some (.int l1), some (.int l2), some (.int (l3 + (1 : Int32))), some (.int l4), l5, l6] [] h ro ho) : xm_E X P d co_X11_fillWays 126 [some (.ref l0), some (.int l1), some (.int l2), some (.int l3), some (.int l4), l5, l6] [] h ro ho := by
  refine xm_E_s r_X11_fillWays_126 rfl rfl ?_
  refine xm_E_s r_X11_fillWays_127 rfl rfl ?_
  refine xm_E_s r_X11_fillWays_128 rfl (xm_T_gi rfl q0 rfl (Or.inl rfl)) ?_
  refine xm_E_s r_X11_fillWays_129 rfl rfl ?_
  refine xm_E_t q1 ?_
  refine xm_E_s (ls1 := [some (.ref l0), some (.int l1), some (.int l2), some (.int (l3 + (1 : Int32))), some (.int l4), l5, l6]) r_X11_fillWays_146 rfl rfl ?_
  refine xm_E_s r_X11_fillWays_147 rfl rfl ?_
  exact K
theorem p_X11_fillWays_126_1 {X : xm_X} {P : List xm_M} {d : Nat} {h : xm_H} {l0 : Nat} {l1 : Int32} {l2 : Int32} {l3 : Int32} {l4 : Int32} {l5 : Option Value} {l6 : Option Value} {v0 : Nat} {v1 : Nat} {n2 : Nat} {v3 : Nat} {n4 : Nat} {n5 : Nat} {ro : Option Value} {ho : xm_H} (q0 : X.1[l0]? = some (.inr 10)) (q1 : ¬ (h.1 l0 23 ≤ l4)) (q2 : h.2.2 l0 27 = some v0) (q3 : h.2.2 l0 22 = some v1) (q4 : X.1[v1]? = some (.inl (0, n2))) (q5 : ¬ (l4 < 0 ∨ n2 ≤ l4.toNatClampNeg)) (q6 : h.2.2 l0 28 = some v3) (q7 : X.1[v3]? = some (.inl (3, n4))) (q8 : ¬ (h.1 v1 l4.toNatClampNeg < 0 ∨ n4 ≤ (h.1 v1 l4.toNatClampNeg).toNatClampNeg)) (q9 : X.1[v0]? = some (.inl (3, n5))) (q10 : ¬ (h.1 v1 l4.toNatClampNeg < 0 ∨ n5 ≤ (h.1 v1 l4.toNatClampNeg).toNatClampNeg)) (K : xm_E X P d co_X11_fillWays 126 [some (.ref l0), some (.int l1), some (.int l2), some (.int l3), some (.int (l4 + (1 : Int32))), l5, l6] [] (xm_sl h v0 ((h.1 v1 l4.toNatClampNeg).toNatClampNeg) (h.2.1 v3 ((h.1 v1 l4.toNatClampNeg).toNatClampNeg))) ro ho) : xm_E X P d co_X11_fillWays 126 [some (.ref l0), some (.int l1), some (.int l2), some (.int l3), some (.int l4), l5, l6] [] h ro ho := by
  refine xm_E_s r_X11_fillWays_126 rfl rfl ?_
  refine xm_E_s r_X11_fillWays_127 rfl rfl ?_
  refine xm_E_s r_X11_fillWays_128 rfl (xm_T_gi rfl q0 rfl (Or.inl rfl)) ?_
  refine xm_E_s r_X11_fillWays_129 rfl rfl ?_
  refine xm_E_f q1 ?_
  refine xm_E_s r_X11_fillWays_130 rfl rfl ?_
  refine xm_E_s r_X11_fillWays_131 rfl (xm_T_gr rfl q0 rfl rfl q2) ?_
  refine xm_E_s r_X11_fillWays_132 rfl rfl ?_
  refine xm_E_s r_X11_fillWays_133 rfl (xm_T_gr rfl q0 rfl rfl q3) ?_
  refine xm_E_s r_X11_fillWays_134 rfl rfl ?_
  refine xm_E_s r_X11_fillWays_135 rfl (xm_T_iald rfl q4 (by decide) q5) ?_
  refine xm_E_s r_X11_fillWays_136 rfl rfl ?_
  refine xm_E_s r_X11_fillWays_137 rfl (xm_T_gr rfl q0 rfl rfl q6) ?_
  refine xm_E_s r_X11_fillWays_138 rfl rfl ?_
  refine xm_E_s r_X11_fillWays_139 rfl (xm_T_gr rfl q0 rfl rfl q3) ?_
  refine xm_E_s r_X11_fillWays_140 rfl rfl ?_
  refine xm_E_s r_X11_fillWays_141 rfl (xm_T_iald rfl q4 (by decide) q5) ?_
  refine xm_E_s r_X11_fillWays_142 rfl (xm_T_lald rfl q7 q8) ?_
  refine xm_E_s r_X11_fillWays_143 rfl (xm_T_last rfl q9 q10) ?_
  refine xm_E_s (ls1 := [some (.ref l0), some (.int l1), some (.int l2), some (.int l3), some (.int (l4 + (1 : Int32))), l5, l6]) r_X11_fillWays_144 rfl rfl ?_
  refine xm_E_s r_X11_fillWays_145 rfl rfl ?_
  exact K
end XMPA
